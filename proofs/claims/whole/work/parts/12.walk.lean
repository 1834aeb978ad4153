/-! walks of methods (printed by program): X12_begins X12_byteAt X12_cannot X12_chairOf X12_choice X12_done X12_emit X12_in X12_isDigit X12_isLetter X12_isOrder X12_isUnder X12_isWrong X12_needOf X12_priceOf X12_refuse X12_status X12_textOn X12_two X12_asRow X12_asService X12_copied X12_ends X12_feed X12_isAway X12_isBefore X12_isDay X12_isInstrument X12_isPlayed X12_isPlayer X12_isService X12_isWork X12_need X12_number X12_price X12_week X12_word X12_work X12_chairs -/
theorem dX12_begins_0 : decode cX12_begins 0 = .ok (.bipush 24, 2) := by decide +kernel
theorem dX12_begins_2 : decode cX12_begins 2 = .ok (.aload_n 0, 1) := by decide +kernel
theorem dX12_begins_3 : decode cX12_begins 3 = .ok (.getfield 49, 3) := by decide +kernel
theorem dX12_begins_6 : decode cX12_begins 6 = .ok (.iload_n 1, 1) := by decide +kernel
theorem dX12_begins_7 : decode cX12_begins 7 = .ok (.iaload, 1) := by decide +kernel
theorem dX12_begins_8 : decode cX12_begins 8 = .ok (.imul, 1) := by decide +kernel
theorem dX12_begins_9 : decode cX12_begins 9 = .ok (.aload_n 0, 1) := by decide +kernel
theorem dX12_begins_10 : decode cX12_begins 10 = .ok (.getfield 52, 3) := by decide +kernel
theorem dX12_begins_13 : decode cX12_begins 13 = .ok (.iload_n 1, 1) := by decide +kernel
theorem dX12_begins_14 : decode cX12_begins 14 = .ok (.iaload, 1) := by decide +kernel
theorem dX12_begins_15 : decode cX12_begins 15 = .ok (.iadd, 1) := by decide +kernel
theorem dX12_begins_16 : decode cX12_begins 16 = .ok (.ireturn, 1) := by decide +kernel
theorem dX12_byteAt_0 : decode cX12_byteAt 0 = .ok (.iload_n 1, 1) := by decide +kernel
theorem dX12_byteAt_1 : decode cX12_byteAt 1 = .ok (.aload_n 0, 1) := by decide +kernel
theorem dX12_byteAt_2 : decode cX12_byteAt 2 = .ok (.getfield 74, 3) := by decide +kernel
theorem dX12_byteAt_5 : decode cX12_byteAt 5 = .ok (.aload_n 0, 1) := by decide +kernel
theorem dX12_byteAt_6 : decode cX12_byteAt 6 = .ok (.getfield 203, 3) := by decide +kernel
theorem dX12_byteAt_9 : decode cX12_byteAt 9 = .ok (.iaload, 1) := by decide +kernel
theorem dX12_byteAt_10 : decode cX12_byteAt 10 = .ok (.if_icmp .ge 21, 3) := by decide +kernel
theorem dX12_byteAt_13 : decode cX12_byteAt 13 = .ok (.aload_n 0, 1) := by decide +kernel
theorem dX12_byteAt_14 : decode cX12_byteAt 14 = .ok (.getfield 77, 3) := by decide +kernel
theorem dX12_byteAt_17 : decode cX12_byteAt 17 = .ok (.sipush 300, 3) := by decide +kernel
theorem dX12_byteAt_20 : decode cX12_byteAt 20 = .ok (.aload_n 0, 1) := by decide +kernel
theorem dX12_byteAt_21 : decode cX12_byteAt 21 = .ok (.getfield 203, 3) := by decide +kernel
theorem dX12_byteAt_24 : decode cX12_byteAt 24 = .ok (.imul, 1) := by decide +kernel
theorem dX12_byteAt_25 : decode cX12_byteAt 25 = .ok (.iload_n 1, 1) := by decide +kernel
theorem dX12_byteAt_26 : decode cX12_byteAt 26 = .ok (.iadd, 1) := by decide +kernel
theorem dX12_byteAt_27 : decode cX12_byteAt 27 = .ok (.iaload, 1) := by decide +kernel
theorem dX12_byteAt_28 : decode cX12_byteAt 28 = .ok (.goto 4, 3) := by decide +kernel
theorem dX12_byteAt_31 : decode cX12_byteAt 31 = .ok (.iconst (-1), 1) := by decide +kernel
theorem dX12_byteAt_32 : decode cX12_byteAt 32 = .ok (.ireturn, 1) := by decide +kernel
theorem dX12_cannot_0 : decode cX12_cannot 0 = .ok (.aload_n 0, 1) := by decide +kernel
theorem dX12_cannot_1 : decode cX12_cannot 1 = .ok (.aload_n 0, 1) := by decide +kernel
theorem dX12_cannot_2 : decode cX12_cannot 2 = .ok (.getfield 233, 3) := by decide +kernel
theorem dX12_cannot_5 : decode cX12_cannot 5 = .ok (.iconst (-1), 1) := by decide +kernel
theorem dX12_cannot_6 : decode cX12_cannot 6 = .ok (.if_icmp .ne 10, 3) := by decide +kernel
theorem dX12_cannot_9 : decode cX12_cannot 9 = .ok (.aload_n 0, 1) := by decide +kernel
theorem dX12_cannot_10 : decode cX12_cannot 10 = .ok (.getfield 212, 3) := by decide +kernel
theorem dX12_cannot_13 : decode cX12_cannot 13 = .ok (.goto 7, 3) := by decide +kernel
theorem dX12_cannot_16 : decode cX12_cannot 16 = .ok (.aload_n 0, 1) := by decide +kernel
theorem dX12_cannot_17 : decode cX12_cannot 17 = .ok (.getfield 233, 3) := by decide +kernel
theorem dX12_cannot_20 : decode cX12_cannot 20 = .ok (.putfield 233, 3) := by decide +kernel
theorem dX12_cannot_23 : decode cX12_cannot 23 = .ok (.return_, 1) := by decide +kernel
theorem dX12_chairOf_0 : decode cX12_chairOf 0 = .ok (.iconst 0, 1) := by decide +kernel
theorem dX12_chairOf_1 : decode cX12_chairOf 1 = .ok (.istore_n 3, 1) := by decide +kernel
theorem dX12_chairOf_2 : decode cX12_chairOf 2 = .ok (.iload_n 3, 1) := by decide +kernel
theorem dX12_chairOf_3 : decode cX12_chairOf 3 = .ok (.bipush 12, 2) := by decide +kernel
theorem dX12_chairOf_5 : decode cX12_chairOf 5 = .ok (.if_icmp .ge 35, 3) := by decide +kernel
theorem dX12_chairOf_8 : decode cX12_chairOf 8 = .ok (.aload_n 0, 1) := by decide +kernel
theorem dX12_chairOf_9 : decode cX12_chairOf 9 = .ok (.getfield 67, 3) := by decide +kernel
theorem dX12_chairOf_12 : decode cX12_chairOf 12 = .ok (.iload_n 1, 1) := by decide +kernel
theorem dX12_chairOf_13 : decode cX12_chairOf 13 = .ok (.baload, 1) := by decide +kernel
theorem dX12_chairOf_14 : decode cX12_chairOf 14 = .ok (.ifCond .eq 26, 3) := by decide +kernel
theorem dX12_chairOf_17 : decode cX12_chairOf 17 = .ok (.aload_n 0, 1) := by decide +kernel
theorem dX12_chairOf_18 : decode cX12_chairOf 18 = .ok (.getfield 64, 3) := by decide +kernel
theorem dX12_chairOf_21 : decode cX12_chairOf 21 = .ok (.bipush 12, 2) := by decide +kernel
theorem dX12_chairOf_23 : decode cX12_chairOf 23 = .ok (.iload_n 1, 1) := by decide +kernel
theorem dX12_chairOf_24 : decode cX12_chairOf 24 = .ok (.imul, 1) := by decide +kernel
theorem dX12_chairOf_25 : decode cX12_chairOf 25 = .ok (.iload_n 3, 1) := by decide +kernel
theorem dX12_chairOf_26 : decode cX12_chairOf 26 = .ok (.iadd, 1) := by decide +kernel
theorem dX12_chairOf_27 : decode cX12_chairOf 27 = .ok (.iaload, 1) := by decide +kernel
theorem dX12_chairOf_28 : decode cX12_chairOf 28 = .ok (.iload_n 2, 1) := by decide +kernel
theorem dX12_chairOf_29 : decode cX12_chairOf 29 = .ok (.if_icmp .ne 5, 3) := by decide +kernel
theorem dX12_chairOf_32 : decode cX12_chairOf 32 = .ok (.iload_n 3, 1) := by decide +kernel
theorem dX12_chairOf_33 : decode cX12_chairOf 33 = .ok (.ireturn, 1) := by decide +kernel
theorem dX12_chairOf_34 : decode cX12_chairOf 34 = .ok (.iinc 3 1, 3) := by decide +kernel
theorem dX12_chairOf_37 : decode cX12_chairOf 37 = .ok (.goto (-35), 3) := by decide +kernel
theorem dX12_chairOf_40 : decode cX12_chairOf 40 = .ok (.iconst (-1), 1) := by decide +kernel
theorem dX12_chairOf_41 : decode cX12_chairOf 41 = .ok (.ireturn, 1) := by decide +kernel
theorem dX12_choice_0 : decode cX12_choice 0 = .ok (.aload_n 0, 1) := by decide +kernel
theorem dX12_choice_1 : decode cX12_choice 1 = .ok (.getfield 120, 3) := by decide +kernel
theorem dX12_choice_4 : decode cX12_choice 4 = .ok (.bipush 10, 2) := by decide +kernel
theorem dX12_choice_6 : decode cX12_choice 6 = .ok (.iload_n 1, 1) := by decide +kernel
theorem dX12_choice_7 : decode cX12_choice 7 = .ok (.imul, 1) := by decide +kernel
theorem dX12_choice_8 : decode cX12_choice 8 = .ok (.iload_n 3, 1) := by decide +kernel
theorem dX12_choice_9 : decode cX12_choice 9 = .ok (.iadd, 1) := by decide +kernel
theorem dX12_choice_10 : decode cX12_choice 10 = .ok (.baload, 1) := by decide +kernel
theorem dX12_choice_11 : decode cX12_choice 11 = .ok (.ifCond .eq 15, 3) := by decide +kernel
theorem dX12_choice_14 : decode cX12_choice 14 = .ok (.iload_n 2, 1) := by decide +kernel
theorem dX12_choice_15 : decode cX12_choice 15 = .ok (.iload_n 3, 1) := by decide +kernel
theorem dX12_choice_16 : decode cX12_choice 16 = .ok (.ishr, 1) := by decide +kernel
theorem dX12_choice_17 : decode cX12_choice 17 = .ok (.iconst 1, 1) := by decide +kernel
theorem dX12_choice_18 : decode cX12_choice 18 = .ok (.iand, 1) := by decide +kernel
theorem dX12_choice_19 : decode cX12_choice 19 = .ok (.ifCond .ne 7, 3) := by decide +kernel
theorem dX12_choice_22 : decode cX12_choice 22 = .ok (.iconst 1, 1) := by decide +kernel
theorem dX12_choice_23 : decode cX12_choice 23 = .ok (.goto 4, 3) := by decide +kernel
theorem dX12_choice_26 : decode cX12_choice 26 = .ok (.iconst 0, 1) := by decide +kernel
theorem dX12_choice_27 : decode cX12_choice 27 = .ok (.istore 4, 2) := by decide +kernel
theorem dX12_choice_29 : decode cX12_choice 29 = .ok (.iload 4, 2) := by decide +kernel
theorem dX12_choice_31 : decode cX12_choice 31 = .ok (.ifCond .eq 26, 3) := by decide +kernel
theorem dX12_choice_34 : decode cX12_choice 34 = .ok (.iconst 1, 1) := by decide +kernel
theorem dX12_choice_35 : decode cX12_choice 35 = .ok (.aload_n 0, 1) := by decide +kernel
theorem dX12_choice_36 : decode cX12_choice 36 = .ok (.getfield 123, 3) := by decide +kernel
theorem dX12_choice_39 : decode cX12_choice 39 = .ok (.sipush 1024, 3) := by decide +kernel
theorem dX12_choice_42 : decode cX12_choice 42 = .ok (.iload_n 1, 1) := by decide +kernel
theorem dX12_choice_43 : decode cX12_choice 43 = .ok (.iconst 1, 1) := by decide +kernel
theorem dX12_choice_44 : decode cX12_choice 44 = .ok (.iadd, 1) := by decide +kernel
theorem dX12_choice_45 : decode cX12_choice 45 = .ok (.imul, 1) := by decide +kernel
theorem dX12_choice_46 : decode cX12_choice 46 = .ok (.iload_n 2, 1) := by decide +kernel
theorem dX12_choice_47 : decode cX12_choice 47 = .ok (.iconst 1, 1) := by decide +kernel
theorem dX12_choice_48 : decode cX12_choice 48 = .ok (.iload_n 3, 1) := by decide +kernel
theorem dX12_choice_49 : decode cX12_choice 49 = .ok (.ishl, 1) := by decide +kernel
theorem dX12_choice_50 : decode cX12_choice 50 = .ok (.ior, 1) := by decide +kernel
theorem dX12_choice_51 : decode cX12_choice 51 = .ok (.iadd, 1) := by decide +kernel
theorem dX12_choice_52 : decode cX12_choice 52 = .ok (.iaload, 1) := by decide +kernel
theorem dX12_choice_53 : decode cX12_choice 53 = .ok (.iadd, 1) := by decide +kernel
theorem dX12_choice_54 : decode cX12_choice 54 = .ok (.goto 4, 3) := by decide +kernel
theorem dX12_choice_57 : decode cX12_choice 57 = .ok (.iconst (-1), 1) := by decide +kernel
theorem dX12_choice_58 : decode cX12_choice 58 = .ok (.ireturn, 1) := by decide +kernel
theorem dX12_done_0 : decode cX12_done 0 = .ok (.aload_n 0, 1) := by decide +kernel
theorem dX12_done_1 : decode cX12_done 1 = .ok (.iconst 0, 1) := by decide +kernel
theorem dX12_done_2 : decode cX12_done 2 = .ok (.putfield 357, 3) := by decide +kernel
theorem dX12_done_5 : decode cX12_done 5 = .ok (.iload_n 1, 1) := by decide +kernel
theorem dX12_done_6 : decode cX12_done 6 = .ok (.ireturn, 1) := by decide +kernel
theorem dX12_emit_0 : decode cX12_emit 0 = .ok (.aload_n 0, 1) := by decide +kernel
theorem dX12_emit_1 : decode cX12_emit 1 = .ok (.getfield 80, 3) := by decide +kernel
theorem dX12_emit_4 : decode cX12_emit 4 = .ok (.sipush 300, 3) := by decide +kernel
theorem dX12_emit_7 : decode cX12_emit 7 = .ok (.aload_n 0, 1) := by decide +kernel
theorem dX12_emit_8 : decode cX12_emit 8 = .ok (.getfield 203, 3) := by decide +kernel
theorem dX12_emit_11 : decode cX12_emit 11 = .ok (.imul, 1) := by decide +kernel
theorem dX12_emit_12 : decode cX12_emit 12 = .ok (.aload_n 0, 1) := by decide +kernel
theorem dX12_emit_13 : decode cX12_emit 13 = .ok (.getfield 249, 3) := by decide +kernel
theorem dX12_emit_16 : decode cX12_emit 16 = .ok (.iadd, 1) := by decide +kernel
theorem dX12_emit_17 : decode cX12_emit 17 = .ok (.iload_n 1, 1) := by decide +kernel
theorem dX12_emit_18 : decode cX12_emit 18 = .ok (.iastore, 1) := by decide +kernel
theorem dX12_emit_19 : decode cX12_emit 19 = .ok (.aload_n 0, 1) := by decide +kernel
theorem dX12_emit_20 : decode cX12_emit 20 = .ok (.getfield 83, 3) := by decide +kernel
theorem dX12_emit_23 : decode cX12_emit 23 = .ok (.sipush 300, 3) := by decide +kernel
theorem dX12_emit_26 : decode cX12_emit 26 = .ok (.aload_n 0, 1) := by decide +kernel
theorem dX12_emit_27 : decode cX12_emit 27 = .ok (.getfield 203, 3) := by decide +kernel
theorem dX12_emit_30 : decode cX12_emit 30 = .ok (.imul, 1) := by decide +kernel
theorem dX12_emit_31 : decode cX12_emit 31 = .ok (.aload_n 0, 1) := by decide +kernel
theorem dX12_emit_32 : decode cX12_emit 32 = .ok (.getfield 249, 3) := by decide +kernel
theorem dX12_emit_35 : decode cX12_emit 35 = .ok (.iadd, 1) := by decide +kernel
theorem dX12_emit_36 : decode cX12_emit 36 = .ok (.iload_n 2, 1) := by decide +kernel
theorem dX12_emit_37 : decode cX12_emit 37 = .ok (.iastore, 1) := by decide +kernel
theorem dX12_emit_38 : decode cX12_emit 38 = .ok (.aload_n 0, 1) := by decide +kernel
theorem dX12_emit_39 : decode cX12_emit 39 = .ok (.dup, 1) := by decide +kernel
theorem dX12_emit_40 : decode cX12_emit 40 = .ok (.getfield 249, 3) := by decide +kernel
theorem dX12_emit_43 : decode cX12_emit 43 = .ok (.iconst 1, 1) := by decide +kernel
theorem dX12_emit_44 : decode cX12_emit 44 = .ok (.iadd, 1) := by decide +kernel
theorem dX12_emit_45 : decode cX12_emit 45 = .ok (.putfield 249, 3) := by decide +kernel
theorem dX12_emit_48 : decode cX12_emit 48 = .ok (.return_, 1) := by decide +kernel
theorem dX12_in_0 : decode cX12_in 0 = .ok (.iload_n 0, 1) := by decide +kernel
theorem dX12_in_1 : decode cX12_in 1 = .ok (.iload_n 1, 1) := by decide +kernel
theorem dX12_in_2 : decode cX12_in 2 = .ok (.if_icmp .lt 12, 3) := by decide +kernel
theorem dX12_in_5 : decode cX12_in 5 = .ok (.iload_n 0, 1) := by decide +kernel
theorem dX12_in_6 : decode cX12_in 6 = .ok (.iload_n 2, 1) := by decide +kernel
theorem dX12_in_7 : decode cX12_in 7 = .ok (.if_icmp .gt 7, 3) := by decide +kernel
theorem dX12_in_10 : decode cX12_in 10 = .ok (.iconst 1, 1) := by decide +kernel
theorem dX12_in_11 : decode cX12_in 11 = .ok (.goto 4, 3) := by decide +kernel
theorem dX12_in_14 : decode cX12_in 14 = .ok (.iconst 0, 1) := by decide +kernel
theorem dX12_in_15 : decode cX12_in 15 = .ok (.ireturn, 1) := by decide +kernel
theorem dX12_isDigit_0 : decode cX12_isDigit 0 = .ok (.iload_n 0, 1) := by decide +kernel
theorem dX12_isDigit_1 : decode cX12_isDigit 1 = .ok (.bipush 48, 2) := by decide +kernel
theorem dX12_isDigit_3 : decode cX12_isDigit 3 = .ok (.if_icmp .lt 13, 3) := by decide +kernel
theorem dX12_isDigit_6 : decode cX12_isDigit 6 = .ok (.iload_n 0, 1) := by decide +kernel
theorem dX12_isDigit_7 : decode cX12_isDigit 7 = .ok (.bipush 57, 2) := by decide +kernel
theorem dX12_isDigit_9 : decode cX12_isDigit 9 = .ok (.if_icmp .gt 7, 3) := by decide +kernel
theorem dX12_isDigit_12 : decode cX12_isDigit 12 = .ok (.iconst 1, 1) := by decide +kernel
theorem dX12_isDigit_13 : decode cX12_isDigit 13 = .ok (.goto 4, 3) := by decide +kernel
theorem dX12_isDigit_16 : decode cX12_isDigit 16 = .ok (.iconst 0, 1) := by decide +kernel
theorem dX12_isDigit_17 : decode cX12_isDigit 17 = .ok (.ireturn, 1) := by decide +kernel
theorem dX12_isLetter_0 : decode cX12_isLetter 0 = .ok (.iload_n 0, 1) := by decide +kernel
theorem dX12_isLetter_1 : decode cX12_isLetter 1 = .ok (.bipush 97, 2) := by decide +kernel
theorem dX12_isLetter_3 : decode cX12_isLetter 3 = .ok (.if_icmp .lt 13, 3) := by decide +kernel
theorem dX12_isLetter_6 : decode cX12_isLetter 6 = .ok (.iload_n 0, 1) := by decide +kernel
theorem dX12_isLetter_7 : decode cX12_isLetter 7 = .ok (.bipush 122, 2) := by decide +kernel
theorem dX12_isLetter_9 : decode cX12_isLetter 9 = .ok (.if_icmp .gt 7, 3) := by decide +kernel
theorem dX12_isLetter_12 : decode cX12_isLetter 12 = .ok (.iconst 1, 1) := by decide +kernel
theorem dX12_isLetter_13 : decode cX12_isLetter 13 = .ok (.goto 4, 3) := by decide +kernel
theorem dX12_isLetter_16 : decode cX12_isLetter 16 = .ok (.iconst 0, 1) := by decide +kernel
theorem dX12_isLetter_17 : decode cX12_isLetter 17 = .ok (.ireturn, 1) := by decide +kernel
theorem dX12_isOrder_0 : decode cX12_isOrder 0 = .ok (.iload_n 3, 1) := by decide +kernel
theorem dX12_isOrder_1 : decode cX12_isOrder 1 = .ok (.istore 4, 2) := by decide +kernel
theorem dX12_isOrder_3 : decode cX12_isOrder 3 = .ok (.iload_n 1, 1) := by decide +kernel
theorem dX12_isOrder_4 : decode cX12_isOrder 4 = .ok (.istore 5, 2) := by decide +kernel
theorem dX12_isOrder_6 : decode cX12_isOrder 6 = .ok (.iconst 0, 1) := by decide +kernel
theorem dX12_isOrder_7 : decode cX12_isOrder 7 = .ok (.istore 6, 2) := by decide +kernel
theorem dX12_isOrder_9 : decode cX12_isOrder 9 = .ok (.iconst 0, 1) := by decide +kernel
theorem dX12_isOrder_10 : decode cX12_isOrder 10 = .ok (.istore 7, 2) := by decide +kernel
theorem dX12_isOrder_12 : decode cX12_isOrder 12 = .ok (.iload 7, 2) := by decide +kernel
theorem dX12_isOrder_14 : decode cX12_isOrder 14 = .ok (.iload_n 2, 1) := by decide +kernel
theorem dX12_isOrder_15 : decode cX12_isOrder 15 = .ok (.if_icmp .ge 52, 3) := by decide +kernel
theorem dX12_isOrder_18 : decode cX12_isOrder 18 = .ok (.iload 4, 2) := by decide +kernel
theorem dX12_isOrder_20 : decode cX12_isOrder 20 = .ok (.iload_n 2, 1) := by decide +kernel
theorem dX12_isOrder_21 : decode cX12_isOrder 21 = .ok (.idiv, 1) := by decide +kernel
theorem dX12_isOrder_22 : decode cX12_isOrder 22 = .ok (.istore 4, 2) := by decide +kernel
theorem dX12_isOrder_24 : decode cX12_isOrder 24 = .ok (.iload 5, 2) := by decide +kernel
theorem dX12_isOrder_26 : decode cX12_isOrder 26 = .ok (.iload 4, 2) := by decide +kernel
theorem dX12_isOrder_28 : decode cX12_isOrder 28 = .ok (.idiv, 1) := by decide +kernel
theorem dX12_isOrder_29 : decode cX12_isOrder 29 = .ok (.istore 8, 2) := by decide +kernel
theorem dX12_isOrder_31 : decode cX12_isOrder 31 = .ok (.iload 5, 2) := by decide +kernel
theorem dX12_isOrder_33 : decode cX12_isOrder 33 = .ok (.iload 4, 2) := by decide +kernel
theorem dX12_isOrder_35 : decode cX12_isOrder 35 = .ok (.irem, 1) := by decide +kernel
theorem dX12_isOrder_36 : decode cX12_isOrder 36 = .ok (.istore 5, 2) := by decide +kernel
theorem dX12_isOrder_38 : decode cX12_isOrder 38 = .ok (.aload_n 0, 1) := by decide +kernel
theorem dX12_isOrder_39 : decode cX12_isOrder 39 = .ok (.getfield 129, 3) := by decide +kernel
theorem dX12_isOrder_42 : decode cX12_isOrder 42 = .ok (.iload 7, 2) := by decide +kernel
theorem dX12_isOrder_44 : decode cX12_isOrder 44 = .ok (.aload_n 0, 1) := by decide +kernel
theorem dX12_isOrder_45 : decode cX12_isOrder 45 = .ok (.getfield 135, 3) := by decide +kernel
theorem dX12_isOrder_48 : decode cX12_isOrder 48 = .ok (.iload 8, 2) := by decide +kernel
theorem dX12_isOrder_50 : decode cX12_isOrder 50 = .ok (.iaload, 1) := by decide +kernel
theorem dX12_isOrder_51 : decode cX12_isOrder 51 = .ok (.iastore, 1) := by decide +kernel
theorem dX12_isOrder_52 : decode cX12_isOrder 52 = .ok (.iload 6, 2) := by decide +kernel
theorem dX12_isOrder_54 : decode cX12_isOrder 54 = .ok (.iconst 1, 1) := by decide +kernel
theorem dX12_isOrder_55 : decode cX12_isOrder 55 = .ok (.iload 8, 2) := by decide +kernel
theorem dX12_isOrder_57 : decode cX12_isOrder 57 = .ok (.ishl, 1) := by decide +kernel
theorem dX12_isOrder_58 : decode cX12_isOrder 58 = .ok (.ior, 1) := by decide +kernel
theorem dX12_isOrder_59 : decode cX12_isOrder 59 = .ok (.istore 6, 2) := by decide +kernel
theorem dX12_isOrder_61 : decode cX12_isOrder 61 = .ok (.iinc 7 1, 3) := by decide +kernel
theorem dX12_isOrder_64 : decode cX12_isOrder 64 = .ok (.goto (-52), 3) := by decide +kernel
theorem dX12_isOrder_67 : decode cX12_isOrder 67 = .ok (.iload 6, 2) := by decide +kernel
theorem dX12_isOrder_69 : decode cX12_isOrder 69 = .ok (.iconst 1, 1) := by decide +kernel
theorem dX12_isOrder_70 : decode cX12_isOrder 70 = .ok (.iload_n 2, 1) := by decide +kernel
theorem dX12_isOrder_71 : decode cX12_isOrder 71 = .ok (.ishl, 1) := by decide +kernel
theorem dX12_isOrder_72 : decode cX12_isOrder 72 = .ok (.iconst 1, 1) := by decide +kernel
theorem dX12_isOrder_73 : decode cX12_isOrder 73 = .ok (.isub, 1) := by decide +kernel
theorem dX12_isOrder_74 : decode cX12_isOrder 74 = .ok (.if_icmp .ne 7, 3) := by decide +kernel
theorem dX12_isOrder_77 : decode cX12_isOrder 77 = .ok (.iconst 1, 1) := by decide +kernel
theorem dX12_isOrder_78 : decode cX12_isOrder 78 = .ok (.goto 4, 3) := by decide +kernel
theorem dX12_isOrder_81 : decode cX12_isOrder 81 = .ok (.iconst 0, 1) := by decide +kernel
theorem dX12_isOrder_82 : decode cX12_isOrder 82 = .ok (.ireturn, 1) := by decide +kernel
theorem dX12_isUnder_0 : decode cX12_isUnder 0 = .ok (.iload_n 1, 1) := by decide +kernel
theorem dX12_isUnder_1 : decode cX12_isUnder 1 = .ok (.ifCond .eq 28, 3) := by decide +kernel
theorem dX12_isUnder_4 : decode cX12_isUnder 4 = .ok (.iload_n 0, 1) := by decide +kernel
theorem dX12_isUnder_5 : decode cX12_isUnder 5 = .ok (.iload_n 1, 1) := by decide +kernel
theorem dX12_isUnder_6 : decode cX12_isUnder 6 = .ok (.if_icmp .eq 23, 3) := by decide +kernel
theorem dX12_isUnder_9 : decode cX12_isUnder 9 = .ok (.iload_n 0, 1) := by decide +kernel
theorem dX12_isUnder_10 : decode cX12_isUnder 10 = .ok (.iconst 3, 1) := by decide +kernel
theorem dX12_isUnder_11 : decode cX12_isUnder 11 = .ok (.if_icmp .ne 8, 3) := by decide +kernel
theorem dX12_isUnder_14 : decode cX12_isUnder 14 = .ok (.iload_n 1, 1) := by decide +kernel
theorem dX12_isUnder_15 : decode cX12_isUnder 15 = .ok (.iconst 2, 1) := by decide +kernel
theorem dX12_isUnder_16 : decode cX12_isUnder 16 = .ok (.if_icmp .eq 13, 3) := by decide +kernel
theorem dX12_isUnder_19 : decode cX12_isUnder 19 = .ok (.iload_n 0, 1) := by decide +kernel
theorem dX12_isUnder_20 : decode cX12_isUnder 20 = .ok (.iconst 5, 1) := by decide +kernel
theorem dX12_isUnder_21 : decode cX12_isUnder 21 = .ok (.if_icmp .ne 12, 3) := by decide +kernel
theorem dX12_isUnder_24 : decode cX12_isUnder 24 = .ok (.iload_n 1, 1) := by decide +kernel
theorem dX12_isUnder_25 : decode cX12_isUnder 25 = .ok (.iconst 1, 1) := by decide +kernel
theorem dX12_isUnder_26 : decode cX12_isUnder 26 = .ok (.if_icmp .ne 7, 3) := by decide +kernel
theorem dX12_isUnder_29 : decode cX12_isUnder 29 = .ok (.iconst 1, 1) := by decide +kernel
theorem dX12_isUnder_30 : decode cX12_isUnder 30 = .ok (.goto 4, 3) := by decide +kernel
theorem dX12_isUnder_33 : decode cX12_isUnder 33 = .ok (.iconst 0, 1) := by decide +kernel
theorem dX12_isUnder_34 : decode cX12_isUnder 34 = .ok (.ireturn, 1) := by decide +kernel
theorem dX12_isWrong_0 : decode cX12_isWrong 0 = .ok (.aload_n 0, 1) := by decide +kernel
theorem dX12_isWrong_1 : decode cX12_isWrong 1 = .ok (.getfield 233, 3) := by decide +kernel
theorem dX12_isWrong_4 : decode cX12_isWrong 4 = .ok (.iconst (-1), 1) := by decide +kernel
theorem dX12_isWrong_5 : decode cX12_isWrong 5 = .ok (.if_icmp .eq 7, 3) := by decide +kernel
theorem dX12_isWrong_8 : decode cX12_isWrong 8 = .ok (.iconst 1, 1) := by decide +kernel
theorem dX12_isWrong_9 : decode cX12_isWrong 9 = .ok (.goto 4, 3) := by decide +kernel
theorem dX12_isWrong_12 : decode cX12_isWrong 12 = .ok (.iconst 0, 1) := by decide +kernel
theorem dX12_isWrong_13 : decode cX12_isWrong 13 = .ok (.ireturn, 1) := by decide +kernel
theorem dX12_needOf_0 : decode cX12_needOf 0 = .ok (.aload_n 0, 1) := by decide +kernel
theorem dX12_needOf_1 : decode cX12_needOf 1 = .ok (.getfield 16, 3) := by decide +kernel
theorem dX12_needOf_4 : decode cX12_needOf 4 = .ok (.iload_n 1, 1) := by decide +kernel
theorem dX12_needOf_5 : decode cX12_needOf 5 = .ok (.iaload, 1) := by decide +kernel
theorem dX12_needOf_6 : decode cX12_needOf 6 = .ok (.iconst 2, 1) := by decide +kernel
theorem dX12_needOf_7 : decode cX12_needOf 7 = .ok (.iload_n 2, 1) := by decide +kernel
theorem dX12_needOf_8 : decode cX12_needOf 8 = .ok (.imul, 1) := by decide +kernel
theorem dX12_needOf_9 : decode cX12_needOf 9 = .ok (.ishr, 1) := by decide +kernel
theorem dX12_needOf_10 : decode cX12_needOf 10 = .ok (.iconst 3, 1) := by decide +kernel
theorem dX12_needOf_11 : decode cX12_needOf 11 = .ok (.iand, 1) := by decide +kernel
theorem dX12_needOf_12 : decode cX12_needOf 12 = .ok (.ireturn, 1) := by decide +kernel
theorem dX12_priceOf_0 : decode cX12_priceOf 0 = .ok (.iconst 0, 1) := by decide +kernel
theorem dX12_priceOf_1 : decode cX12_priceOf 1 = .ok (.istore_n 2, 1) := by decide +kernel
theorem dX12_priceOf_2 : decode cX12_priceOf 2 = .ok (.iconst 0, 1) := by decide +kernel
theorem dX12_priceOf_3 : decode cX12_priceOf 3 = .ok (.istore_n 3, 1) := by decide +kernel
theorem dX12_priceOf_4 : decode cX12_priceOf 4 = .ok (.iload_n 3, 1) := by decide +kernel
theorem dX12_priceOf_5 : decode cX12_priceOf 5 = .ok (.aload_n 0, 1) := by decide +kernel
theorem dX12_priceOf_6 : decode cX12_priceOf 6 = .ok (.getfield 152, 3) := by decide +kernel
theorem dX12_priceOf_9 : decode cX12_priceOf 9 = .ok (.if_icmp .ge 31, 3) := by decide +kernel
theorem dX12_priceOf_12 : decode cX12_priceOf 12 = .ok (.iload_n 2, 1) := by decide +kernel
theorem dX12_priceOf_13 : decode cX12_priceOf 13 = .ok (.iload_n 1, 1) := by decide +kernel
theorem dX12_priceOf_14 : decode cX12_priceOf 14 = .ok (.iload_n 3, 1) := by decide +kernel
theorem dX12_priceOf_15 : decode cX12_priceOf 15 = .ok (.ishr, 1) := by decide +kernel
theorem dX12_priceOf_16 : decode cX12_priceOf 16 = .ok (.iconst 1, 1) := by decide +kernel
theorem dX12_priceOf_17 : decode cX12_priceOf 17 = .ok (.iand, 1) := by decide +kernel
theorem dX12_priceOf_18 : decode cX12_priceOf 18 = .ok (.iconst 1, 1) := by decide +kernel
theorem dX12_priceOf_19 : decode cX12_priceOf 19 = .ok (.if_icmp .ne 12, 3) := by decide +kernel
theorem dX12_priceOf_22 : decode cX12_priceOf 22 = .ok (.aload_n 0, 1) := by decide +kernel
theorem dX12_priceOf_23 : decode cX12_priceOf 23 = .ok (.getfield 13, 3) := by decide +kernel
theorem dX12_priceOf_26 : decode cX12_priceOf 26 = .ok (.iload_n 3, 1) := by decide +kernel
theorem dX12_priceOf_27 : decode cX12_priceOf 27 = .ok (.iaload, 1) := by decide +kernel
theorem dX12_priceOf_28 : decode cX12_priceOf 28 = .ok (.goto 4, 3) := by decide +kernel
theorem dX12_priceOf_31 : decode cX12_priceOf 31 = .ok (.iconst 0, 1) := by decide +kernel
theorem dX12_priceOf_32 : decode cX12_priceOf 32 = .ok (.iadd, 1) := by decide +kernel
theorem dX12_priceOf_33 : decode cX12_priceOf 33 = .ok (.istore_n 2, 1) := by decide +kernel
theorem dX12_priceOf_34 : decode cX12_priceOf 34 = .ok (.iinc 3 1, 3) := by decide +kernel
theorem dX12_priceOf_37 : decode cX12_priceOf 37 = .ok (.goto (-33), 3) := by decide +kernel
theorem dX12_priceOf_40 : decode cX12_priceOf 40 = .ok (.iload_n 2, 1) := by decide +kernel
theorem dX12_priceOf_41 : decode cX12_priceOf 41 = .ok (.ireturn, 1) := by decide +kernel
theorem dX12_refuse_0 : decode cX12_refuse 0 = .ok (.aload_n 0, 1) := by decide +kernel
theorem dX12_refuse_1 : decode cX12_refuse 1 = .ok (.iload_n 1, 1) := by decide +kernel
theorem dX12_refuse_2 : decode cX12_refuse 2 = .ok (.putfield 357, 3) := by decide +kernel
theorem dX12_refuse_5 : decode cX12_refuse 5 = .ok (.iconst (-1), 1) := by decide +kernel
theorem dX12_refuse_6 : decode cX12_refuse 6 = .ok (.ireturn, 1) := by decide +kernel
theorem dX12_status_0 : decode cX12_status 0 = .ok (.aload_n 0, 1) := by decide +kernel
theorem dX12_status_1 : decode cX12_status 1 = .ok (.getfield 357, 3) := by decide +kernel
theorem dX12_status_4 : decode cX12_status 4 = .ok (.ireturn, 1) := by decide +kernel
theorem dX12_textOn_0 : decode cX12_textOn 0 = .ok (.iconst 0, 1) := by decide +kernel
theorem dX12_textOn_1 : decode cX12_textOn 1 = .ok (.istore_n 2, 1) := by decide +kernel
theorem dX12_textOn_2 : decode cX12_textOn 2 = .ok (.iconst (-1), 1) := by decide +kernel
theorem dX12_textOn_3 : decode cX12_textOn 3 = .ok (.istore_n 3, 1) := by decide +kernel
theorem dX12_textOn_4 : decode cX12_textOn 4 = .ok (.iconst 0, 1) := by decide +kernel
theorem dX12_textOn_5 : decode cX12_textOn 5 = .ok (.istore 4, 2) := by decide +kernel
theorem dX12_textOn_7 : decode cX12_textOn 7 = .ok (.iload 4, 2) := by decide +kernel
theorem dX12_textOn_9 : decode cX12_textOn 9 = .ok (.aload_n 0, 1) := by decide +kernel
theorem dX12_textOn_10 : decode cX12_textOn 10 = .ok (.getfield 145, 3) := by decide +kernel
theorem dX12_textOn_13 : decode cX12_textOn 13 = .ok (.if_icmp .ge 53, 3) := by decide +kernel
theorem dX12_textOn_16 : decode cX12_textOn 16 = .ok (.aload_n 0, 1) := by decide +kernel
theorem dX12_textOn_17 : decode cX12_textOn 17 = .ok (.getfield 92, 3) := by decide +kernel
theorem dX12_textOn_20 : decode cX12_textOn 20 = .ok (.iload 4, 2) := by decide +kernel
theorem dX12_textOn_22 : decode cX12_textOn 22 = .ok (.iaload, 1) := by decide +kernel
theorem dX12_textOn_23 : decode cX12_textOn 23 = .ok (.iconst (-1), 1) := by decide +kernel
theorem dX12_textOn_24 : decode cX12_textOn 24 = .ok (.if_icmp .eq 36, 3) := by decide +kernel
theorem dX12_textOn_27 : decode cX12_textOn 27 = .ok (.aload_n 0, 1) := by decide +kernel
theorem dX12_textOn_28 : decode cX12_textOn 28 = .ok (.getfield 92, 3) := by decide +kernel
theorem dX12_textOn_31 : decode cX12_textOn 31 = .ok (.iload 4, 2) := by decide +kernel
theorem dX12_textOn_33 : decode cX12_textOn 33 = .ok (.iaload, 1) := by decide +kernel
theorem dX12_textOn_34 : decode cX12_textOn 34 = .ok (.iload_n 1, 1) := by decide +kernel
theorem dX12_textOn_35 : decode cX12_textOn 35 = .ok (.if_icmp .gt 25, 3) := by decide +kernel
theorem dX12_textOn_38 : decode cX12_textOn 38 = .ok (.aload_n 0, 1) := by decide +kernel
theorem dX12_textOn_39 : decode cX12_textOn 39 = .ok (.getfield 95, 3) := by decide +kernel
theorem dX12_textOn_42 : decode cX12_textOn 42 = .ok (.iload 4, 2) := by decide +kernel
theorem dX12_textOn_44 : decode cX12_textOn 44 = .ok (.iaload, 1) := by decide +kernel
theorem dX12_textOn_45 : decode cX12_textOn 45 = .ok (.iload_n 3, 1) := by decide +kernel
theorem dX12_textOn_46 : decode cX12_textOn 46 = .ok (.if_icmp .le 14, 3) := by decide +kernel
theorem dX12_textOn_49 : decode cX12_textOn 49 = .ok (.iload 4, 2) := by decide +kernel
theorem dX12_textOn_51 : decode cX12_textOn 51 = .ok (.istore_n 2, 1) := by decide +kernel
theorem dX12_textOn_52 : decode cX12_textOn 52 = .ok (.aload_n 0, 1) := by decide +kernel
theorem dX12_textOn_53 : decode cX12_textOn 53 = .ok (.getfield 95, 3) := by decide +kernel
theorem dX12_textOn_56 : decode cX12_textOn 56 = .ok (.iload 4, 2) := by decide +kernel
theorem dX12_textOn_58 : decode cX12_textOn 58 = .ok (.iaload, 1) := by decide +kernel
theorem dX12_textOn_59 : decode cX12_textOn 59 = .ok (.istore_n 3, 1) := by decide +kernel
theorem dX12_textOn_60 : decode cX12_textOn 60 = .ok (.iinc 4 1, 3) := by decide +kernel
theorem dX12_textOn_63 : decode cX12_textOn 63 = .ok (.goto (-56), 3) := by decide +kernel
theorem dX12_textOn_66 : decode cX12_textOn 66 = .ok (.iload_n 2, 1) := by decide +kernel
theorem dX12_textOn_67 : decode cX12_textOn 67 = .ok (.ireturn, 1) := by decide +kernel
theorem dX12_two_0 : decode cX12_two 0 = .ok (.iload_n 0, 1) := by decide +kernel
theorem dX12_two_1 : decode cX12_two 1 = .ok (.tableswitch 111 2 8 #[43, 61, 111, 79, 91, 103, 107], 43) := by decide +kernel
theorem dX12_two_44 : decode cX12_two 44 = .ok (.lload_n 1, 1) := by decide +kernel
theorem dX12_two_45 : decode cX12_two 45 = .ok (.lconst 0, 1) := by decide +kernel
theorem dX12_two_46 : decode cX12_two 46 = .ok (.lcmp, 1) := by decide +kernel
theorem dX12_two_47 : decode cX12_two 47 = .ok (.ifCond .ne 9, 3) := by decide +kernel
theorem dX12_two_50 : decode cX12_two 50 = .ok (.lload_n 3, 1) := by decide +kernel
theorem dX12_two_51 : decode cX12_two 51 = .ok (.lconst 0, 1) := by decide +kernel
theorem dX12_two_52 : decode cX12_two 52 = .ok (.lcmp, 1) := by decide +kernel
theorem dX12_two_53 : decode cX12_two 53 = .ok (.ifCond .eq 7, 3) := by decide +kernel
theorem dX12_two_56 : decode cX12_two 56 = .ok (.lconst 1, 1) := by decide +kernel
theorem dX12_two_57 : decode cX12_two 57 = .ok (.goto 4, 3) := by decide +kernel
theorem dX12_two_60 : decode cX12_two 60 = .ok (.lconst 0, 1) := by decide +kernel
theorem dX12_two_61 : decode cX12_two 61 = .ok (.lreturn, 1) := by decide +kernel
theorem dX12_two_62 : decode cX12_two 62 = .ok (.lload_n 1, 1) := by decide +kernel
theorem dX12_two_63 : decode cX12_two 63 = .ok (.lconst 0, 1) := by decide +kernel
theorem dX12_two_64 : decode cX12_two 64 = .ok (.lcmp, 1) := by decide +kernel
theorem dX12_two_65 : decode cX12_two 65 = .ok (.ifCond .eq 13, 3) := by decide +kernel
theorem dX12_two_68 : decode cX12_two 68 = .ok (.lload_n 3, 1) := by decide +kernel
theorem dX12_two_69 : decode cX12_two 69 = .ok (.lconst 0, 1) := by decide +kernel
theorem dX12_two_70 : decode cX12_two 70 = .ok (.lcmp, 1) := by decide +kernel
theorem dX12_two_71 : decode cX12_two 71 = .ok (.ifCond .eq 7, 3) := by decide +kernel
theorem dX12_two_74 : decode cX12_two 74 = .ok (.lconst 1, 1) := by decide +kernel
theorem dX12_two_75 : decode cX12_two 75 = .ok (.goto 4, 3) := by decide +kernel
theorem dX12_two_78 : decode cX12_two 78 = .ok (.lconst 0, 1) := by decide +kernel
theorem dX12_two_79 : decode cX12_two 79 = .ok (.lreturn, 1) := by decide +kernel
theorem dX12_two_80 : decode cX12_two 80 = .ok (.lload_n 1, 1) := by decide +kernel
theorem dX12_two_81 : decode cX12_two 81 = .ok (.lload_n 3, 1) := by decide +kernel
theorem dX12_two_82 : decode cX12_two 82 = .ok (.lcmp, 1) := by decide +kernel
theorem dX12_two_83 : decode cX12_two 83 = .ok (.ifCond .ge 7, 3) := by decide +kernel
theorem dX12_two_86 : decode cX12_two 86 = .ok (.lconst 1, 1) := by decide +kernel
theorem dX12_two_87 : decode cX12_two 87 = .ok (.goto 4, 3) := by decide +kernel
theorem dX12_two_90 : decode cX12_two 90 = .ok (.lconst 0, 1) := by decide +kernel
theorem dX12_two_91 : decode cX12_two 91 = .ok (.lreturn, 1) := by decide +kernel
theorem dX12_two_92 : decode cX12_two 92 = .ok (.lload_n 1, 1) := by decide +kernel
theorem dX12_two_93 : decode cX12_two 93 = .ok (.lload_n 3, 1) := by decide +kernel
theorem dX12_two_94 : decode cX12_two 94 = .ok (.lcmp, 1) := by decide +kernel
theorem dX12_two_95 : decode cX12_two 95 = .ok (.ifCond .ne 7, 3) := by decide +kernel
theorem dX12_two_98 : decode cX12_two 98 = .ok (.lconst 1, 1) := by decide +kernel
theorem dX12_two_99 : decode cX12_two 99 = .ok (.goto 4, 3) := by decide +kernel
theorem dX12_two_102 : decode cX12_two 102 = .ok (.lconst 0, 1) := by decide +kernel
theorem dX12_two_103 : decode cX12_two 103 = .ok (.lreturn, 1) := by decide +kernel
theorem dX12_two_104 : decode cX12_two 104 = .ok (.lload_n 1, 1) := by decide +kernel
theorem dX12_two_105 : decode cX12_two 105 = .ok (.lload_n 3, 1) := by decide +kernel
theorem dX12_two_106 : decode cX12_two 106 = .ok (.ladd, 1) := by decide +kernel
theorem dX12_two_107 : decode cX12_two 107 = .ok (.lreturn, 1) := by decide +kernel
theorem dX12_two_108 : decode cX12_two 108 = .ok (.lload_n 1, 1) := by decide +kernel
theorem dX12_two_109 : decode cX12_two 109 = .ok (.lload_n 3, 1) := by decide +kernel
theorem dX12_two_110 : decode cX12_two 110 = .ok (.lsub, 1) := by decide +kernel
theorem dX12_two_111 : decode cX12_two 111 = .ok (.lreturn, 1) := by decide +kernel
theorem dX12_two_112 : decode cX12_two 112 = .ok (.lload_n 1, 1) := by decide +kernel
theorem dX12_two_113 : decode cX12_two 113 = .ok (.lload_n 3, 1) := by decide +kernel
theorem dX12_two_114 : decode cX12_two 114 = .ok (.lmul, 1) := by decide +kernel
theorem dX12_two_115 : decode cX12_two 115 = .ok (.lreturn, 1) := by decide +kernel
theorem dX12_asRow_0 : decode cX12_asRow 0 = .ok (.aload_n 0, 1) := by decide +kernel
theorem dX12_asRow_1 : decode cX12_asRow 1 = .ok (.getfield 98, 3) := by decide +kernel
theorem dX12_asRow_4 : decode cX12_asRow 4 = .ok (.iload_n 1, 1) := by decide +kernel
theorem dX12_asRow_5 : decode cX12_asRow 5 = .ok (.iaload, 1) := by decide +kernel
theorem dX12_asRow_6 : decode cX12_asRow 6 = .ok (.ifCond .ne 10, 3) := by decide +kernel
theorem dX12_asRow_9 : decode cX12_asRow 9 = .ok (.aload_n 0, 1) := by decide +kernel
theorem dX12_asRow_10 : decode cX12_asRow 10 = .ok (.bipush 10, 2) := by decide +kernel
theorem dX12_asRow_12 : decode cX12_asRow 12 = .ok (.invokevirtual 360, 3) := by decide +kernel
theorem dX12_asRow_15 : decode cX12_asRow 15 = .ok (.ireturn, 1) := by decide +kernel
theorem dX12_asRow_16 : decode cX12_asRow 16 = .ok (.aload_n 0, 1) := by decide +kernel
theorem dX12_asRow_17 : decode cX12_asRow 17 = .ok (.getfield 98, 3) := by decide +kernel
theorem dX12_asRow_20 : decode cX12_asRow 20 = .ok (.iload_n 1, 1) := by decide +kernel
theorem dX12_asRow_21 : decode cX12_asRow 21 = .ok (.iaload, 1) := by decide +kernel
theorem dX12_asRow_22 : decode cX12_asRow 22 = .ok (.iload_n 2, 1) := by decide +kernel
theorem dX12_asRow_23 : decode cX12_asRow 23 = .ok (.if_icmp .eq 10, 3) := by decide +kernel
theorem dX12_asRow_26 : decode cX12_asRow 26 = .ok (.aload_n 0, 1) := by decide +kernel
theorem dX12_asRow_27 : decode cX12_asRow 27 = .ok (.bipush 11, 2) := by decide +kernel
theorem dX12_asRow_29 : decode cX12_asRow 29 = .ok (.invokevirtual 360, 3) := by decide +kernel
theorem dX12_asRow_32 : decode cX12_asRow 32 = .ok (.ireturn, 1) := by decide +kernel
theorem dX12_asRow_33 : decode cX12_asRow 33 = .ok (.iload_n 3, 1) := by decide +kernel
theorem dX12_asRow_34 : decode cX12_asRow 34 = .ok (.iconst 0, 1) := by decide +kernel
theorem dX12_asRow_35 : decode cX12_asRow 35 = .ok (.aload_n 0, 1) := by decide +kernel
theorem dX12_asRow_36 : decode cX12_asRow 36 = .ok (.getfield 104, 3) := by decide +kernel
theorem dX12_asRow_39 : decode cX12_asRow 39 = .ok (.iload_n 1, 1) := by decide +kernel
theorem dX12_asRow_40 : decode cX12_asRow 40 = .ok (.iaload, 1) := by decide +kernel
theorem dX12_asRow_41 : decode cX12_asRow 41 = .ok (.iconst 1, 1) := by decide +kernel
theorem dX12_asRow_42 : decode cX12_asRow 42 = .ok (.isub, 1) := by decide +kernel
theorem dX12_asRow_43 : decode cX12_asRow 43 = .ok (.invokestatic 155, 3) := by decide +kernel
theorem dX12_asRow_46 : decode cX12_asRow 46 = .ok (.ifCond .eq 23, 3) := by decide +kernel
theorem dX12_asRow_49 : decode cX12_asRow 49 = .ok (.aload_n 0, 1) := by decide +kernel
theorem dX12_asRow_50 : decode cX12_asRow 50 = .ok (.aload_n 0, 1) := by decide +kernel
theorem dX12_asRow_51 : decode cX12_asRow 51 = .ok (.getfield 107, 3) := by decide +kernel
theorem dX12_asRow_54 : decode cX12_asRow 54 = .ok (.sipush 300, 3) := by decide +kernel
theorem dX12_asRow_57 : decode cX12_asRow 57 = .ok (.iload_n 1, 1) := by decide +kernel
theorem dX12_asRow_58 : decode cX12_asRow 58 = .ok (.imul, 1) := by decide +kernel
theorem dX12_asRow_59 : decode cX12_asRow 59 = .ok (.iload_n 3, 1) := by decide +kernel
theorem dX12_asRow_60 : decode cX12_asRow 60 = .ok (.iadd, 1) := by decide +kernel
theorem dX12_asRow_61 : decode cX12_asRow 61 = .ok (.laload, 1) := by decide +kernel
theorem dX12_asRow_62 : decode cX12_asRow 62 = .ok (.l2i, 1) := by decide +kernel
theorem dX12_asRow_63 : decode cX12_asRow 63 = .ok (.invokevirtual 363, 3) := by decide +kernel
theorem dX12_asRow_66 : decode cX12_asRow 66 = .ok (.goto 9, 3) := by decide +kernel
theorem dX12_asRow_69 : decode cX12_asRow 69 = .ok (.aload_n 0, 1) := by decide +kernel
theorem dX12_asRow_70 : decode cX12_asRow 70 = .ok (.bipush 12, 2) := by decide +kernel
theorem dX12_asRow_72 : decode cX12_asRow 72 = .ok (.invokevirtual 360, 3) := by decide +kernel
theorem dX12_asRow_75 : decode cX12_asRow 75 = .ok (.ireturn, 1) := by decide +kernel
theorem dX12_asService_0 : decode cX12_asService 0 = .ok (.aload_n 0, 1) := by decide +kernel
theorem dX12_asService_1 : decode cX12_asService 1 = .ok (.getfield 98, 3) := by decide +kernel
theorem dX12_asService_4 : decode cX12_asService 4 = .ok (.iload_n 1, 1) := by decide +kernel
theorem dX12_asService_5 : decode cX12_asService 5 = .ok (.iaload, 1) := by decide +kernel
theorem dX12_asService_6 : decode cX12_asService 6 = .ok (.istore 4, 2) := by decide +kernel
theorem dX12_asService_8 : decode cX12_asService 8 = .ok (.iload 4, 2) := by decide +kernel
theorem dX12_asService_10 : decode cX12_asService 10 = .ok (.ifCond .eq 33, 3) := by decide +kernel
theorem dX12_asService_13 : decode cX12_asService 13 = .ok (.iload 4, 2) := by decide +kernel
theorem dX12_asService_15 : decode cX12_asService 15 = .ok (.iconst 1, 1) := by decide +kernel
theorem dX12_asService_16 : decode cX12_asService 16 = .ok (.if_icmp .ne 21, 3) := by decide +kernel
theorem dX12_asService_19 : decode cX12_asService 19 = .ok (.aload_n 0, 1) := by decide +kernel
theorem dX12_asService_20 : decode cX12_asService 20 = .ok (.getfield 46, 3) := by decide +kernel
theorem dX12_asService_23 : decode cX12_asService 23 = .ok (.aload_n 0, 1) := by decide +kernel
theorem dX12_asService_24 : decode cX12_asService 24 = .ok (.getfield 101, 3) := by decide +kernel
theorem dX12_asService_27 : decode cX12_asService 27 = .ok (.iload_n 1, 1) := by decide +kernel
theorem dX12_asService_28 : decode cX12_asService 28 = .ok (.iaload, 1) := by decide +kernel
theorem dX12_asService_29 : decode cX12_asService 29 = .ok (.iaload, 1) := by decide +kernel
theorem dX12_asService_30 : decode cX12_asService 30 = .ok (.iload_n 2, 1) := by decide +kernel
theorem dX12_asService_31 : decode cX12_asService 31 = .ok (.invokestatic 366, 3) := by decide +kernel
theorem dX12_asService_34 : decode cX12_asService 34 = .ok (.ifCond .ne 9, 3) := by decide +kernel
theorem dX12_asService_37 : decode cX12_asService 37 = .ok (.aload_n 0, 1) := by decide +kernel
theorem dX12_asService_38 : decode cX12_asService 38 = .ok (.iload_n 3, 1) := by decide +kernel
theorem dX12_asService_39 : decode cX12_asService 39 = .ok (.invokevirtual 360, 3) := by decide +kernel
theorem dX12_asService_42 : decode cX12_asService 42 = .ok (.ireturn, 1) := by decide +kernel
theorem dX12_asService_43 : decode cX12_asService 43 = .ok (.iload 4, 2) := by decide +kernel
theorem dX12_asService_45 : decode cX12_asService 45 = .ok (.ifCond .ne 24, 3) := by decide +kernel
theorem dX12_asService_48 : decode cX12_asService 48 = .ok (.iload_n 3, 1) := by decide +kernel
theorem dX12_asService_49 : decode cX12_asService 49 = .ok (.bipush 11, 2) := by decide +kernel
theorem dX12_asService_51 : decode cX12_asService 51 = .ok (.if_icmp .ne 12, 3) := by decide +kernel
theorem dX12_asService_54 : decode cX12_asService 54 = .ok (.aload_n 0, 1) := by decide +kernel
theorem dX12_asService_55 : decode cX12_asService 55 = .ok (.bipush 10, 2) := by decide +kernel
theorem dX12_asService_57 : decode cX12_asService 57 = .ok (.invokevirtual 360, 3) := by decide +kernel
theorem dX12_asService_60 : decode cX12_asService 60 = .ok (.goto 8, 3) := by decide +kernel
theorem dX12_asService_63 : decode cX12_asService 63 = .ok (.aload_n 0, 1) := by decide +kernel
theorem dX12_asService_64 : decode cX12_asService 64 = .ok (.iconst 0, 1) := by decide +kernel
theorem dX12_asService_65 : decode cX12_asService 65 = .ok (.invokevirtual 363, 3) := by decide +kernel
theorem dX12_asService_68 : decode cX12_asService 68 = .ok (.ireturn, 1) := by decide +kernel
theorem dX12_asService_69 : decode cX12_asService 69 = .ok (.aload_n 0, 1) := by decide +kernel
theorem dX12_asService_70 : decode cX12_asService 70 = .ok (.aload_n 0, 1) := by decide +kernel
theorem dX12_asService_71 : decode cX12_asService 71 = .ok (.getfield 49, 3) := by decide +kernel
theorem dX12_asService_74 : decode cX12_asService 74 = .ok (.aload_n 0, 1) := by decide +kernel
theorem dX12_asService_75 : decode cX12_asService 75 = .ok (.getfield 101, 3) := by decide +kernel
theorem dX12_asService_78 : decode cX12_asService 78 = .ok (.iload_n 1, 1) := by decide +kernel
theorem dX12_asService_79 : decode cX12_asService 79 = .ok (.iaload, 1) := by decide +kernel
theorem dX12_asService_80 : decode cX12_asService 80 = .ok (.iaload, 1) := by decide +kernel
theorem dX12_asService_81 : decode cX12_asService 81 = .ok (.invokevirtual 363, 3) := by decide +kernel
theorem dX12_asService_84 : decode cX12_asService 84 = .ok (.ireturn, 1) := by decide +kernel
theorem dX12_copied_0 : decode cX12_copied 0 = .ok (.aload_n 0, 1) := by decide +kernel
theorem dX12_copied_1 : decode cX12_copied 1 = .ok (.getfield 98, 3) := by decide +kernel
theorem dX12_copied_4 : decode cX12_copied 4 = .ok (.iload_n 1, 1) := by decide +kernel
theorem dX12_copied_5 : decode cX12_copied 5 = .ok (.iaload, 1) := by decide +kernel
theorem dX12_copied_6 : decode cX12_copied 6 = .ok (.ifCond .ne 10, 3) := by decide +kernel
theorem dX12_copied_9 : decode cX12_copied 9 = .ok (.aload_n 0, 1) := by decide +kernel
theorem dX12_copied_10 : decode cX12_copied 10 = .ok (.bipush 10, 2) := by decide +kernel
theorem dX12_copied_12 : decode cX12_copied 12 = .ok (.invokevirtual 360, 3) := by decide +kernel
theorem dX12_copied_15 : decode cX12_copied 15 = .ok (.ireturn, 1) := by decide +kernel
theorem dX12_copied_16 : decode cX12_copied 16 = .ok (.aload_n 0, 1) := by decide +kernel
theorem dX12_copied_17 : decode cX12_copied 17 = .ok (.getfield 98, 3) := by decide +kernel
theorem dX12_copied_20 : decode cX12_copied 20 = .ok (.iload_n 1, 1) := by decide +kernel
theorem dX12_copied_21 : decode cX12_copied 21 = .ok (.iaload, 1) := by decide +kernel
theorem dX12_copied_22 : decode cX12_copied 22 = .ok (.iconst 3, 1) := by decide +kernel
theorem dX12_copied_23 : decode cX12_copied 23 = .ok (.if_icmp .eq 10, 3) := by decide +kernel
theorem dX12_copied_26 : decode cX12_copied 26 = .ok (.aload_n 0, 1) := by decide +kernel
theorem dX12_copied_27 : decode cX12_copied 27 = .ok (.bipush 11, 2) := by decide +kernel
theorem dX12_copied_29 : decode cX12_copied 29 = .ok (.invokevirtual 360, 3) := by decide +kernel
theorem dX12_copied_32 : decode cX12_copied 32 = .ok (.ireturn, 1) := by decide +kernel
theorem dX12_copied_33 : decode cX12_copied 33 = .ok (.iload_n 2, 1) := by decide +kernel
theorem dX12_copied_34 : decode cX12_copied 34 = .ok (.ifCond .lt 22, 3) := by decide +kernel
theorem dX12_copied_37 : decode cX12_copied 37 = .ok (.iconst 1, 1) := by decide +kernel
theorem dX12_copied_38 : decode cX12_copied 38 = .ok (.iload_n 2, 1) := by decide +kernel
theorem dX12_copied_39 : decode cX12_copied 39 = .ok (.iadd, 1) := by decide +kernel
theorem dX12_copied_40 : decode cX12_copied 40 = .ok (.aload_n 0, 1) := by decide +kernel
theorem dX12_copied_41 : decode cX12_copied 41 = .ok (.getfield 104, 3) := by decide +kernel
theorem dX12_copied_44 : decode cX12_copied 44 = .ok (.iload_n 1, 1) := by decide +kernel
theorem dX12_copied_45 : decode cX12_copied 45 = .ok (.iaload, 1) := by decide +kernel
theorem dX12_copied_46 : decode cX12_copied 46 = .ok (.if_icmp .gt 10, 3) := by decide +kernel
theorem dX12_copied_49 : decode cX12_copied 49 = .ok (.iconst 2, 1) := by decide +kernel
theorem dX12_copied_50 : decode cX12_copied 50 = .ok (.iload_n 2, 1) := by decide +kernel
theorem dX12_copied_51 : decode cX12_copied 51 = .ok (.imul, 1) := by decide +kernel
theorem dX12_copied_52 : decode cX12_copied 52 = .ok (.iconst 5, 1) := by decide +kernel
theorem dX12_copied_53 : decode cX12_copied 53 = .ok (.if_icmp .le 10, 3) := by decide +kernel
theorem dX12_copied_56 : decode cX12_copied 56 = .ok (.aload_n 0, 1) := by decide +kernel
theorem dX12_copied_57 : decode cX12_copied 57 = .ok (.bipush 12, 2) := by decide +kernel
theorem dX12_copied_59 : decode cX12_copied 59 = .ok (.invokevirtual 360, 3) := by decide +kernel
theorem dX12_copied_62 : decode cX12_copied 62 = .ok (.ireturn, 1) := by decide +kernel
theorem dX12_copied_63 : decode cX12_copied 63 = .ok (.lconst 0, 1) := by decide +kernel
theorem dX12_copied_64 : decode cX12_copied 64 = .ok (.lstore_n 3, 1) := by decide +kernel
theorem dX12_copied_65 : decode cX12_copied 65 = .ok (.iconst 0, 1) := by decide +kernel
theorem dX12_copied_66 : decode cX12_copied 66 = .ok (.istore 5, 2) := by decide +kernel
theorem dX12_copied_68 : decode cX12_copied 68 = .ok (.iload 5, 2) := by decide +kernel
theorem dX12_copied_70 : decode cX12_copied 70 = .ok (.iload_n 2, 1) := by decide +kernel
theorem dX12_copied_71 : decode cX12_copied 71 = .ok (.if_icmp .ge 27, 3) := by decide +kernel
theorem dX12_copied_74 : decode cX12_copied 74 = .ok (.lload_n 3, 1) := by decide +kernel
theorem dX12_copied_75 : decode cX12_copied 75 = .ok (.aload_n 0, 1) := by decide +kernel
theorem dX12_copied_76 : decode cX12_copied 76 = .ok (.getfield 107, 3) := by decide +kernel
theorem dX12_copied_79 : decode cX12_copied 79 = .ok (.sipush 300, 3) := by decide +kernel
theorem dX12_copied_82 : decode cX12_copied 82 = .ok (.iload_n 1, 1) := by decide +kernel
theorem dX12_copied_83 : decode cX12_copied 83 = .ok (.imul, 1) := by decide +kernel
theorem dX12_copied_84 : decode cX12_copied 84 = .ok (.iconst 1, 1) := by decide +kernel
theorem dX12_copied_85 : decode cX12_copied 85 = .ok (.iadd, 1) := by decide +kernel
theorem dX12_copied_86 : decode cX12_copied 86 = .ok (.iload 5, 2) := by decide +kernel
theorem dX12_copied_88 : decode cX12_copied 88 = .ok (.iadd, 1) := by decide +kernel
theorem dX12_copied_89 : decode cX12_copied 89 = .ok (.laload, 1) := by decide +kernel
theorem dX12_copied_90 : decode cX12_copied 90 = .ok (.ladd, 1) := by decide +kernel
theorem dX12_copied_91 : decode cX12_copied 91 = .ok (.lstore_n 3, 1) := by decide +kernel
theorem dX12_copied_92 : decode cX12_copied 92 = .ok (.iinc 5 1, 3) := by decide +kernel
theorem dX12_copied_95 : decode cX12_copied 95 = .ok (.goto (-27), 3) := by decide +kernel
theorem dX12_copied_98 : decode cX12_copied 98 = .ok (.aload_n 0, 1) := by decide +kernel
theorem dX12_copied_99 : decode cX12_copied 99 = .ok (.lload_n 3, 1) := by decide +kernel
theorem dX12_copied_100 : decode cX12_copied 100 = .ok (.l2i, 1) := by decide +kernel
theorem dX12_copied_101 : decode cX12_copied 101 = .ok (.invokevirtual 363, 3) := by decide +kernel
theorem dX12_copied_104 : decode cX12_copied 104 = .ok (.ireturn, 1) := by decide +kernel
theorem dX12_ends_0 : decode cX12_ends 0 = .ok (.aload_n 0, 1) := by decide +kernel
theorem dX12_ends_1 : decode cX12_ends 1 = .ok (.iload_n 1, 1) := by decide +kernel
theorem dX12_ends_2 : decode cX12_ends 2 = .ok (.invokevirtual 281, 3) := by decide +kernel
theorem dX12_ends_5 : decode cX12_ends 5 = .ok (.aload_n 0, 1) := by decide +kernel
theorem dX12_ends_6 : decode cX12_ends 6 = .ok (.getfield 55, 3) := by decide +kernel
theorem dX12_ends_9 : decode cX12_ends 9 = .ok (.iload_n 1, 1) := by decide +kernel
theorem dX12_ends_10 : decode cX12_ends 10 = .ok (.iaload, 1) := by decide +kernel
theorem dX12_ends_11 : decode cX12_ends 11 = .ok (.iadd, 1) := by decide +kernel
theorem dX12_ends_12 : decode cX12_ends 12 = .ok (.ireturn, 1) := by decide +kernel
theorem dX12_feed_0 : decode cX12_feed 0 = .ok (.iload_n 1, 1) := by decide +kernel
theorem dX12_feed_1 : decode cX12_feed 1 = .ok (.iconst 1, 1) := by decide +kernel
theorem dX12_feed_2 : decode cX12_feed 2 = .ok (.bipush 8, 2) := by decide +kernel
theorem dX12_feed_4 : decode cX12_feed 4 = .ok (.invokestatic 155, 3) := by decide +kernel
theorem dX12_feed_7 : decode cX12_feed 7 = .ok (.ifCond .ne 6, 3) := by decide +kernel
theorem dX12_feed_10 : decode cX12_feed 10 = .ok (.bipush (-2), 2) := by decide +kernel
theorem dX12_feed_12 : decode cX12_feed 12 = .ok (.ireturn, 1) := by decide +kernel
theorem dX12_feed_13 : decode cX12_feed 13 = .ok (.aload_n 0, 1) := by decide +kernel
theorem dX12_feed_14 : decode cX12_feed 14 = .ok (.getfield 301, 3) := by decide +kernel
theorem dX12_feed_17 : decode cX12_feed 17 = .ok (.iload_n 1, 1) := by decide +kernel
theorem dX12_feed_18 : decode cX12_feed 18 = .ok (.iadd, 1) := by decide +kernel
theorem dX12_feed_19 : decode cX12_feed 19 = .ok (.sipush 300, 3) := by decide +kernel
theorem dX12_feed_22 : decode cX12_feed 22 = .ok (.if_icmp .le 6, 3) := by decide +kernel
theorem dX12_feed_25 : decode cX12_feed 25 = .ok (.bipush (-4), 2) := by decide +kernel
theorem dX12_feed_27 : decode cX12_feed 27 = .ok (.ireturn, 1) := by decide +kernel
theorem dX12_feed_28 : decode cX12_feed 28 = .ok (.iconst 0, 1) := by decide +kernel
theorem dX12_feed_29 : decode cX12_feed 29 = .ok (.istore 4, 2) := by decide +kernel
theorem dX12_feed_31 : decode cX12_feed 31 = .ok (.iload 4, 2) := by decide +kernel
theorem dX12_feed_33 : decode cX12_feed 33 = .ok (.iload_n 1, 1) := by decide +kernel
theorem dX12_feed_34 : decode cX12_feed 34 = .ok (.if_icmp .ge 40, 3) := by decide +kernel
theorem dX12_feed_37 : decode cX12_feed 37 = .ok (.aload_n 0, 1) := by decide +kernel
theorem dX12_feed_38 : decode cX12_feed 38 = .ok (.getfield 71, 3) := by decide +kernel
theorem dX12_feed_41 : decode cX12_feed 41 = .ok (.aload_n 0, 1) := by decide +kernel
theorem dX12_feed_42 : decode cX12_feed 42 = .ok (.getfield 301, 3) := by decide +kernel
theorem dX12_feed_45 : decode cX12_feed 45 = .ok (.lload_n 2, 1) := by decide +kernel
theorem dX12_feed_46 : decode cX12_feed 46 = .ok (.bipush 8, 2) := by decide +kernel
theorem dX12_feed_48 : decode cX12_feed 48 = .ok (.iload 4, 2) := by decide +kernel
theorem dX12_feed_50 : decode cX12_feed 50 = .ok (.imul, 1) := by decide +kernel
theorem dX12_feed_51 : decode cX12_feed 51 = .ok (.lshr, 1) := by decide +kernel
theorem dX12_feed_52 : decode cX12_feed 52 = .ok (.ldc2_w 304, 3) := by decide +kernel
theorem dX12_feed_55 : decode cX12_feed 55 = .ok (.land, 1) := by decide +kernel
theorem dX12_feed_56 : decode cX12_feed 56 = .ok (.l2i, 1) := by decide +kernel
theorem dX12_feed_57 : decode cX12_feed 57 = .ok (.iastore, 1) := by decide +kernel
theorem dX12_feed_58 : decode cX12_feed 58 = .ok (.aload_n 0, 1) := by decide +kernel
theorem dX12_feed_59 : decode cX12_feed 59 = .ok (.dup, 1) := by decide +kernel
theorem dX12_feed_60 : decode cX12_feed 60 = .ok (.getfield 301, 3) := by decide +kernel
theorem dX12_feed_63 : decode cX12_feed 63 = .ok (.iconst 1, 1) := by decide +kernel
theorem dX12_feed_64 : decode cX12_feed 64 = .ok (.iadd, 1) := by decide +kernel
theorem dX12_feed_65 : decode cX12_feed 65 = .ok (.putfield 301, 3) := by decide +kernel
theorem dX12_feed_68 : decode cX12_feed 68 = .ok (.iinc 4 1, 3) := by decide +kernel
theorem dX12_feed_71 : decode cX12_feed 71 = .ok (.goto (-40), 3) := by decide +kernel
theorem dX12_feed_74 : decode cX12_feed 74 = .ok (.aload_n 0, 1) := by decide +kernel
theorem dX12_feed_75 : decode cX12_feed 75 = .ok (.getfield 301, 3) := by decide +kernel
theorem dX12_feed_78 : decode cX12_feed 78 = .ok (.ireturn, 1) := by decide +kernel
theorem dX12_isAway_0 : decode cX12_isAway 0 = .ok (.iconst 0, 1) := by decide +kernel
theorem dX12_isAway_1 : decode cX12_isAway 1 = .ok (.istore_n 3, 1) := by decide +kernel
theorem dX12_isAway_2 : decode cX12_isAway 2 = .ok (.iconst 0, 1) := by decide +kernel
theorem dX12_isAway_3 : decode cX12_isAway 3 = .ok (.istore 4, 2) := by decide +kernel
theorem dX12_isAway_5 : decode cX12_isAway 5 = .ok (.iload 4, 2) := by decide +kernel
theorem dX12_isAway_7 : decode cX12_isAway 7 = .ok (.aload_n 0, 1) := by decide +kernel
theorem dX12_isAway_8 : decode cX12_isAway 8 = .ok (.getfield 37, 3) := by decide +kernel
theorem dX12_isAway_11 : decode cX12_isAway 11 = .ok (.iload_n 1, 1) := by decide +kernel
theorem dX12_isAway_12 : decode cX12_isAway 12 = .ok (.iaload, 1) := by decide +kernel
theorem dX12_isAway_13 : decode cX12_isAway 13 = .ok (.if_icmp .ge 50, 3) := by decide +kernel
theorem dX12_isAway_16 : decode cX12_isAway 16 = .ok (.iload_n 3, 1) := by decide +kernel
theorem dX12_isAway_17 : decode cX12_isAway 17 = .ok (.ifCond .ne 34, 3) := by decide +kernel
theorem dX12_isAway_20 : decode cX12_isAway 20 = .ok (.iload_n 2, 1) := by decide +kernel
theorem dX12_isAway_21 : decode cX12_isAway 21 = .ok (.aload_n 0, 1) := by decide +kernel
theorem dX12_isAway_22 : decode cX12_isAway 22 = .ok (.getfield 40, 3) := by decide +kernel
theorem dX12_isAway_25 : decode cX12_isAway 25 = .ok (.bipush 6, 2) := by decide +kernel
theorem dX12_isAway_27 : decode cX12_isAway 27 = .ok (.iload_n 1, 1) := by decide +kernel
theorem dX12_isAway_28 : decode cX12_isAway 28 = .ok (.imul, 1) := by decide +kernel
theorem dX12_isAway_29 : decode cX12_isAway 29 = .ok (.iload 4, 2) := by decide +kernel
theorem dX12_isAway_31 : decode cX12_isAway 31 = .ok (.iadd, 1) := by decide +kernel
theorem dX12_isAway_32 : decode cX12_isAway 32 = .ok (.iaload, 1) := by decide +kernel
theorem dX12_isAway_33 : decode cX12_isAway 33 = .ok (.aload_n 0, 1) := by decide +kernel
theorem dX12_isAway_34 : decode cX12_isAway 34 = .ok (.getfield 43, 3) := by decide +kernel
theorem dX12_isAway_37 : decode cX12_isAway 37 = .ok (.bipush 6, 2) := by decide +kernel
theorem dX12_isAway_39 : decode cX12_isAway 39 = .ok (.iload_n 1, 1) := by decide +kernel
theorem dX12_isAway_40 : decode cX12_isAway 40 = .ok (.imul, 1) := by decide +kernel
theorem dX12_isAway_41 : decode cX12_isAway 41 = .ok (.iload 4, 2) := by decide +kernel
theorem dX12_isAway_43 : decode cX12_isAway 43 = .ok (.iadd, 1) := by decide +kernel
theorem dX12_isAway_44 : decode cX12_isAway 44 = .ok (.iaload, 1) := by decide +kernel
theorem dX12_isAway_45 : decode cX12_isAway 45 = .ok (.invokestatic 155, 3) := by decide +kernel
theorem dX12_isAway_48 : decode cX12_isAway 48 = .ok (.ifCond .eq 7, 3) := by decide +kernel
theorem dX12_isAway_51 : decode cX12_isAway 51 = .ok (.iconst 1, 1) := by decide +kernel
theorem dX12_isAway_52 : decode cX12_isAway 52 = .ok (.goto 4, 3) := by decide +kernel
theorem dX12_isAway_55 : decode cX12_isAway 55 = .ok (.iconst 0, 1) := by decide +kernel
theorem dX12_isAway_56 : decode cX12_isAway 56 = .ok (.istore_n 3, 1) := by decide +kernel
theorem dX12_isAway_57 : decode cX12_isAway 57 = .ok (.iinc 4 1, 3) := by decide +kernel
theorem dX12_isAway_60 : decode cX12_isAway 60 = .ok (.goto (-55), 3) := by decide +kernel
theorem dX12_isAway_63 : decode cX12_isAway 63 = .ok (.iload_n 3, 1) := by decide +kernel
theorem dX12_isAway_64 : decode cX12_isAway 64 = .ok (.ireturn, 1) := by decide +kernel
theorem dX12_isBefore_0 : decode cX12_isBefore 0 = .ok (.iload_n 1, 1) := by decide +kernel
theorem dX12_isBefore_1 : decode cX12_isBefore 1 = .ok (.iload_n 2, 1) := by decide +kernel
theorem dX12_isBefore_2 : decode cX12_isBefore 2 = .ok (.ixor, 1) := by decide +kernel
theorem dX12_isBefore_3 : decode cX12_isBefore 3 = .ok (.istore_n 3, 1) := by decide +kernel
theorem dX12_isBefore_4 : decode cX12_isBefore 4 = .ok (.aload_n 0, 1) := by decide +kernel
theorem dX12_isBefore_5 : decode cX12_isBefore 5 = .ok (.iload_n 1, 1) := by decide +kernel
theorem dX12_isBefore_6 : decode cX12_isBefore 6 = .ok (.invokevirtual 354, 3) := by decide +kernel
theorem dX12_isBefore_9 : decode cX12_isBefore 9 = .ok (.aload_n 0, 1) := by decide +kernel
theorem dX12_isBefore_10 : decode cX12_isBefore 10 = .ok (.iload_n 2, 1) := by decide +kernel
theorem dX12_isBefore_11 : decode cX12_isBefore 11 = .ok (.invokevirtual 354, 3) := by decide +kernel
theorem dX12_isBefore_14 : decode cX12_isBefore 14 = .ok (.if_icmp .lt 25, 3) := by decide +kernel
theorem dX12_isBefore_17 : decode cX12_isBefore 17 = .ok (.aload_n 0, 1) := by decide +kernel
theorem dX12_isBefore_18 : decode cX12_isBefore 18 = .ok (.iload_n 1, 1) := by decide +kernel
theorem dX12_isBefore_19 : decode cX12_isBefore 19 = .ok (.invokevirtual 354, 3) := by decide +kernel
theorem dX12_isBefore_22 : decode cX12_isBefore 22 = .ok (.aload_n 0, 1) := by decide +kernel
theorem dX12_isBefore_23 : decode cX12_isBefore 23 = .ok (.iload_n 2, 1) := by decide +kernel
theorem dX12_isBefore_24 : decode cX12_isBefore 24 = .ok (.invokevirtual 354, 3) := by decide +kernel
theorem dX12_isBefore_27 : decode cX12_isBefore 27 = .ok (.if_icmp .ne 16, 3) := by decide +kernel
theorem dX12_isBefore_30 : decode cX12_isBefore 30 = .ok (.iload_n 1, 1) := by decide +kernel
theorem dX12_isBefore_31 : decode cX12_isBefore 31 = .ok (.iload_n 3, 1) := by decide +kernel
theorem dX12_isBefore_32 : decode cX12_isBefore 32 = .ok (.iand, 1) := by decide +kernel
theorem dX12_isBefore_33 : decode cX12_isBefore 33 = .ok (.iload_n 3, 1) := by decide +kernel
theorem dX12_isBefore_34 : decode cX12_isBefore 34 = .ok (.ineg, 1) := by decide +kernel
theorem dX12_isBefore_35 : decode cX12_isBefore 35 = .ok (.iand, 1) := by decide +kernel
theorem dX12_isBefore_36 : decode cX12_isBefore 36 = .ok (.ifCond .eq 7, 3) := by decide +kernel
theorem dX12_isBefore_39 : decode cX12_isBefore 39 = .ok (.iconst 1, 1) := by decide +kernel
theorem dX12_isBefore_40 : decode cX12_isBefore 40 = .ok (.goto 4, 3) := by decide +kernel
theorem dX12_isBefore_43 : decode cX12_isBefore 43 = .ok (.iconst 0, 1) := by decide +kernel
theorem dX12_isBefore_44 : decode cX12_isBefore 44 = .ok (.ireturn, 1) := by decide +kernel
theorem dX12_isDay_0 : decode cX12_isDay 0 = .ok (.iload_n 0, 1) := by decide +kernel
theorem dX12_isDay_1 : decode cX12_isDay 1 = .ok (.iconst 0, 1) := by decide +kernel
theorem dX12_isDay_2 : decode cX12_isDay 2 = .ok (.sipush 400, 3) := by decide +kernel
theorem dX12_isDay_5 : decode cX12_isDay 5 = .ok (.invokestatic 155, 3) := by decide +kernel
theorem dX12_isDay_8 : decode cX12_isDay 8 = .ok (.ireturn, 1) := by decide +kernel
theorem dX12_isInstrument_0 : decode cX12_isInstrument 0 = .ok (.iload_n 0, 1) := by decide +kernel
theorem dX12_isInstrument_1 : decode cX12_isInstrument 1 = .ok (.iconst 0, 1) := by decide +kernel
theorem dX12_isInstrument_2 : decode cX12_isInstrument 2 = .ok (.iconst 5, 1) := by decide +kernel
theorem dX12_isInstrument_3 : decode cX12_isInstrument 3 = .ok (.invokestatic 155, 3) := by decide +kernel
theorem dX12_isInstrument_6 : decode cX12_isInstrument 6 = .ok (.ireturn, 1) := by decide +kernel
theorem dX12_isPlayed_0 : decode cX12_isPlayed 0 = .ok (.aload_n 0, 1) := by decide +kernel
theorem dX12_isPlayed_1 : decode cX12_isPlayed 1 = .ok (.getfield 19, 3) := by decide +kernel
theorem dX12_isPlayed_4 : decode cX12_isPlayed 4 = .ok (.iload_n 1, 1) := by decide +kernel
theorem dX12_isPlayed_5 : decode cX12_isPlayed 5 = .ok (.iaload, 1) := by decide +kernel
theorem dX12_isPlayed_6 : decode cX12_isPlayed 6 = .ok (.ifCond .eq 32, 3) := by decide +kernel
theorem dX12_isPlayed_9 : decode cX12_isPlayed 9 = .ok (.aload_n 0, 1) := by decide +kernel
theorem dX12_isPlayed_10 : decode cX12_isPlayed 10 = .ok (.getfield 19, 3) := by decide +kernel
theorem dX12_isPlayed_13 : decode cX12_isPlayed 13 = .ok (.iload_n 1, 1) := by decide +kernel
theorem dX12_isPlayed_14 : decode cX12_isPlayed 14 = .ok (.iaload, 1) := by decide +kernel
theorem dX12_isPlayed_15 : decode cX12_isPlayed 15 = .ok (.iconst 1, 1) := by decide +kernel
theorem dX12_isPlayed_16 : decode cX12_isPlayed 16 = .ok (.if_icmp .ne 26, 3) := by decide +kernel
theorem dX12_isPlayed_19 : decode cX12_isPlayed 19 = .ok (.iload_n 2, 1) := by decide +kernel
theorem dX12_isPlayed_20 : decode cX12_isPlayed 20 = .ok (.aload_n 0, 1) := by decide +kernel
theorem dX12_isPlayed_21 : decode cX12_isPlayed 21 = .ok (.getfield 22, 3) := by decide +kernel
theorem dX12_isPlayed_24 : decode cX12_isPlayed 24 = .ok (.iload_n 1, 1) := by decide +kernel
theorem dX12_isPlayed_25 : decode cX12_isPlayed 25 = .ok (.iaload, 1) := by decide +kernel
theorem dX12_isPlayed_26 : decode cX12_isPlayed 26 = .ok (.aload_n 0, 1) := by decide +kernel
theorem dX12_isPlayed_27 : decode cX12_isPlayed 27 = .ok (.getfield 25, 3) := by decide +kernel
theorem dX12_isPlayed_30 : decode cX12_isPlayed 30 = .ok (.iload_n 1, 1) := by decide +kernel
theorem dX12_isPlayed_31 : decode cX12_isPlayed 31 = .ok (.iaload, 1) := by decide +kernel
theorem dX12_isPlayed_32 : decode cX12_isPlayed 32 = .ok (.invokestatic 155, 3) := by decide +kernel
theorem dX12_isPlayed_35 : decode cX12_isPlayed 35 = .ok (.ifCond .eq 7, 3) := by decide +kernel
theorem dX12_isPlayed_38 : decode cX12_isPlayed 38 = .ok (.iconst 1, 1) := by decide +kernel
theorem dX12_isPlayed_39 : decode cX12_isPlayed 39 = .ok (.goto 4, 3) := by decide +kernel
theorem dX12_isPlayed_42 : decode cX12_isPlayed 42 = .ok (.iconst 0, 1) := by decide +kernel
theorem dX12_isPlayed_43 : decode cX12_isPlayed 43 = .ok (.ireturn, 1) := by decide +kernel
theorem dX12_isPlayer_0 : decode cX12_isPlayer 0 = .ok (.iload_n 1, 1) := by decide +kernel
theorem dX12_isPlayer_1 : decode cX12_isPlayer 1 = .ok (.iconst 0, 1) := by decide +kernel
theorem dX12_isPlayer_2 : decode cX12_isPlayer 2 = .ok (.aload_n 0, 1) := by decide +kernel
theorem dX12_isPlayer_3 : decode cX12_isPlayer 3 = .ok (.getfield 159, 3) := by decide +kernel
theorem dX12_isPlayer_6 : decode cX12_isPlayer 6 = .ok (.iconst 1, 1) := by decide +kernel
theorem dX12_isPlayer_7 : decode cX12_isPlayer 7 = .ok (.isub, 1) := by decide +kernel
theorem dX12_isPlayer_8 : decode cX12_isPlayer 8 = .ok (.invokestatic 155, 3) := by decide +kernel
theorem dX12_isPlayer_11 : decode cX12_isPlayer 11 = .ok (.ireturn, 1) := by decide +kernel
theorem dX12_isService_0 : decode cX12_isService 0 = .ok (.iload_n 1, 1) := by decide +kernel
theorem dX12_isService_1 : decode cX12_isService 1 = .ok (.iconst 0, 1) := by decide +kernel
theorem dX12_isService_2 : decode cX12_isService 2 = .ok (.aload_n 0, 1) := by decide +kernel
theorem dX12_isService_3 : decode cX12_isService 3 = .ok (.getfield 162, 3) := by decide +kernel
theorem dX12_isService_6 : decode cX12_isService 6 = .ok (.iconst 1, 1) := by decide +kernel
theorem dX12_isService_7 : decode cX12_isService 7 = .ok (.isub, 1) := by decide +kernel
theorem dX12_isService_8 : decode cX12_isService 8 = .ok (.invokestatic 155, 3) := by decide +kernel
theorem dX12_isService_11 : decode cX12_isService 11 = .ok (.ireturn, 1) := by decide +kernel
theorem dX12_isWork_0 : decode cX12_isWork 0 = .ok (.iload_n 1, 1) := by decide +kernel
theorem dX12_isWork_1 : decode cX12_isWork 1 = .ok (.iconst 0, 1) := by decide +kernel
theorem dX12_isWork_2 : decode cX12_isWork 2 = .ok (.aload_n 0, 1) := by decide +kernel
theorem dX12_isWork_3 : decode cX12_isWork 3 = .ok (.getfield 152, 3) := by decide +kernel
theorem dX12_isWork_6 : decode cX12_isWork 6 = .ok (.iconst 1, 1) := by decide +kernel
theorem dX12_isWork_7 : decode cX12_isWork 7 = .ok (.isub, 1) := by decide +kernel
theorem dX12_isWork_8 : decode cX12_isWork 8 = .ok (.invokestatic 155, 3) := by decide +kernel
theorem dX12_isWork_11 : decode cX12_isWork 11 = .ok (.ireturn, 1) := by decide +kernel
theorem dX12_need_0 : decode cX12_need 0 = .ok (.iload_n 3, 1) := by decide +kernel
theorem dX12_need_1 : decode cX12_need 1 = .ok (.iconst (-1), 1) := by decide +kernel
theorem dX12_need_2 : decode cX12_need 2 = .ok (.if_icmp .ne 7, 3) := by decide +kernel
theorem dX12_need_5 : decode cX12_need 5 = .ok (.iconst 0, 1) := by decide +kernel
theorem dX12_need_6 : decode cX12_need 6 = .ok (.goto 9, 3) := by decide +kernel
theorem dX12_need_9 : decode cX12_need 9 = .ok (.aload_n 0, 1) := by decide +kernel
theorem dX12_need_10 : decode cX12_need 10 = .ok (.iload_n 3, 1) := by decide +kernel
theorem dX12_need_11 : decode cX12_need 11 = .ok (.iload_n 2, 1) := by decide +kernel
theorem dX12_need_12 : decode cX12_need 12 = .ok (.invokevirtual 186, 3) := by decide +kernel
theorem dX12_need_15 : decode cX12_need 15 = .ok (.istore 4, 2) := by decide +kernel
theorem dX12_need_17 : decode cX12_need 17 = .ok (.iconst 0, 1) := by decide +kernel
theorem dX12_need_18 : decode cX12_need 18 = .ok (.istore 5, 2) := by decide +kernel
theorem dX12_need_20 : decode cX12_need 20 = .ok (.iload 5, 2) := by decide +kernel
theorem dX12_need_22 : decode cX12_need 22 = .ok (.aload_n 0, 1) := by decide +kernel
theorem dX12_need_23 : decode cX12_need 23 = .ok (.getfield 58, 3) := by decide +kernel
theorem dX12_need_26 : decode cX12_need 26 = .ok (.iload_n 1, 1) := by decide +kernel
theorem dX12_need_27 : decode cX12_need 27 = .ok (.iaload, 1) := by decide +kernel
theorem dX12_need_28 : decode cX12_need 28 = .ok (.if_icmp .ge 53, 3) := by decide +kernel
theorem dX12_need_31 : decode cX12_need 31 = .ok (.aload_n 0, 1) := by decide +kernel
theorem dX12_need_32 : decode cX12_need 32 = .ok (.aload_n 0, 1) := by decide +kernel
theorem dX12_need_33 : decode cX12_need 33 = .ok (.getfield 61, 3) := by decide +kernel
theorem dX12_need_36 : decode cX12_need 36 = .ok (.iconst 5, 1) := by decide +kernel
theorem dX12_need_37 : decode cX12_need 37 = .ok (.iload_n 1, 1) := by decide +kernel
theorem dX12_need_38 : decode cX12_need 38 = .ok (.imul, 1) := by decide +kernel
theorem dX12_need_39 : decode cX12_need 39 = .ok (.iload 5, 2) := by decide +kernel
theorem dX12_need_41 : decode cX12_need 41 = .ok (.iadd, 1) := by decide +kernel
theorem dX12_need_42 : decode cX12_need 42 = .ok (.iaload, 1) := by decide +kernel
theorem dX12_need_43 : decode cX12_need 43 = .ok (.iload_n 2, 1) := by decide +kernel
theorem dX12_need_44 : decode cX12_need 44 = .ok (.invokevirtual 186, 3) := by decide +kernel
theorem dX12_need_47 : decode cX12_need 47 = .ok (.iload 4, 2) := by decide +kernel
theorem dX12_need_49 : decode cX12_need 49 = .ok (.if_icmp .le 22, 3) := by decide +kernel
theorem dX12_need_52 : decode cX12_need 52 = .ok (.aload_n 0, 1) := by decide +kernel
theorem dX12_need_53 : decode cX12_need 53 = .ok (.aload_n 0, 1) := by decide +kernel
theorem dX12_need_54 : decode cX12_need 54 = .ok (.getfield 61, 3) := by decide +kernel
theorem dX12_need_57 : decode cX12_need 57 = .ok (.iconst 5, 1) := by decide +kernel
theorem dX12_need_58 : decode cX12_need 58 = .ok (.iload_n 1, 1) := by decide +kernel
theorem dX12_need_59 : decode cX12_need 59 = .ok (.imul, 1) := by decide +kernel
theorem dX12_need_60 : decode cX12_need 60 = .ok (.iload 5, 2) := by decide +kernel
theorem dX12_need_62 : decode cX12_need 62 = .ok (.iadd, 1) := by decide +kernel
theorem dX12_need_63 : decode cX12_need 63 = .ok (.iaload, 1) := by decide +kernel
theorem dX12_need_64 : decode cX12_need 64 = .ok (.iload_n 2, 1) := by decide +kernel
theorem dX12_need_65 : decode cX12_need 65 = .ok (.invokevirtual 186, 3) := by decide +kernel
theorem dX12_need_68 : decode cX12_need 68 = .ok (.goto 5, 3) := by decide +kernel
theorem dX12_need_71 : decode cX12_need 71 = .ok (.iload 4, 2) := by decide +kernel
theorem dX12_need_73 : decode cX12_need 73 = .ok (.istore 4, 2) := by decide +kernel
theorem dX12_need_75 : decode cX12_need 75 = .ok (.iinc 5 1, 3) := by decide +kernel
theorem dX12_need_78 : decode cX12_need 78 = .ok (.goto (-58), 3) := by decide +kernel
theorem dX12_need_81 : decode cX12_need 81 = .ok (.aload_n 0, 1) := by decide +kernel
theorem dX12_need_82 : decode cX12_need 82 = .ok (.getfield 46, 3) := by decide +kernel
theorem dX12_need_85 : decode cX12_need 85 = .ok (.iload_n 1, 1) := by decide +kernel
theorem dX12_need_86 : decode cX12_need 86 = .ok (.iaload, 1) := by decide +kernel
theorem dX12_need_87 : decode cX12_need 87 = .ok (.iconst 4, 1) := by decide +kernel
theorem dX12_need_88 : decode cX12_need 88 = .ok (.if_icmp .ne 13, 3) := by decide +kernel
theorem dX12_need_91 : decode cX12_need 91 = .ok (.iload 4, 2) := by decide +kernel
theorem dX12_need_93 : decode cX12_need 93 = .ok (.iconst 1, 1) := by decide +kernel
theorem dX12_need_94 : decode cX12_need 94 = .ok (.if_icmp .le 7, 3) := by decide +kernel
theorem dX12_need_97 : decode cX12_need 97 = .ok (.iconst 1, 1) := by decide +kernel
theorem dX12_need_98 : decode cX12_need 98 = .ok (.goto 5, 3) := by decide +kernel
theorem dX12_need_101 : decode cX12_need 101 = .ok (.iload 4, 2) := by decide +kernel
theorem dX12_need_103 : decode cX12_need 103 = .ok (.ireturn, 1) := by decide +kernel
theorem dX12_number_0 : decode cX12_number 0 = .ok (.aload_n 0, 1) := by decide +kernel
theorem dX12_number_1 : decode cX12_number 1 = .ok (.iconst 0, 1) := by decide +kernel
theorem dX12_number_2 : decode cX12_number 2 = .ok (.putfield 230, 3) := by decide +kernel
theorem dX12_number_5 : decode cX12_number 5 = .ok (.aload_n 0, 1) := by decide +kernel
theorem dX12_number_6 : decode cX12_number 6 = .ok (.aload_n 0, 1) := by decide +kernel
theorem dX12_number_7 : decode cX12_number 7 = .ok (.getfield 206, 3) := by decide +kernel
theorem dX12_number_10 : decode cX12_number 10 = .ok (.invokevirtual 209, 3) := by decide +kernel
theorem dX12_number_13 : decode cX12_number 13 = .ok (.invokestatic 224, 3) := by decide +kernel
theorem dX12_number_16 : decode cX12_number 16 = .ok (.ifCond .eq 59, 3) := by decide +kernel
theorem dX12_number_19 : decode cX12_number 19 = .ok (.aload_n 0, 1) := by decide +kernel
theorem dX12_number_20 : decode cX12_number 20 = .ok (.aload_n 0, 1) := by decide +kernel
theorem dX12_number_21 : decode cX12_number 21 = .ok (.getfield 206, 3) := by decide +kernel
theorem dX12_number_24 : decode cX12_number 24 = .ok (.aload_n 0, 1) := by decide +kernel
theorem dX12_number_25 : decode cX12_number 25 = .ok (.getfield 212, 3) := by decide +kernel
theorem dX12_number_28 : decode cX12_number 28 = .ok (.isub, 1) := by decide +kernel
theorem dX12_number_29 : decode cX12_number 29 = .ok (.iconst 5, 1) := by decide +kernel
theorem dX12_number_30 : decode cX12_number 30 = .ok (.if_icmp .ge 25, 3) := by decide +kernel
theorem dX12_number_33 : decode cX12_number 33 = .ok (.bipush 10, 2) := by decide +kernel
theorem dX12_number_35 : decode cX12_number 35 = .ok (.aload_n 0, 1) := by decide +kernel
theorem dX12_number_36 : decode cX12_number 36 = .ok (.getfield 230, 3) := by decide +kernel
theorem dX12_number_39 : decode cX12_number 39 = .ok (.imul, 1) := by decide +kernel
theorem dX12_number_40 : decode cX12_number 40 = .ok (.aload_n 0, 1) := by decide +kernel
theorem dX12_number_41 : decode cX12_number 41 = .ok (.aload_n 0, 1) := by decide +kernel
theorem dX12_number_42 : decode cX12_number 42 = .ok (.getfield 206, 3) := by decide +kernel
theorem dX12_number_45 : decode cX12_number 45 = .ok (.invokevirtual 209, 3) := by decide +kernel
theorem dX12_number_48 : decode cX12_number 48 = .ok (.iadd, 1) := by decide +kernel
theorem dX12_number_49 : decode cX12_number 49 = .ok (.bipush 48, 2) := by decide +kernel
theorem dX12_number_51 : decode cX12_number 51 = .ok (.isub, 1) := by decide +kernel
theorem dX12_number_52 : decode cX12_number 52 = .ok (.goto 7, 3) := by decide +kernel
theorem dX12_number_55 : decode cX12_number 55 = .ok (.aload_n 0, 1) := by decide +kernel
theorem dX12_number_56 : decode cX12_number 56 = .ok (.getfield 230, 3) := by decide +kernel
theorem dX12_number_59 : decode cX12_number 59 = .ok (.putfield 230, 3) := by decide +kernel
theorem dX12_number_62 : decode cX12_number 62 = .ok (.aload_n 0, 1) := by decide +kernel
theorem dX12_number_63 : decode cX12_number 63 = .ok (.dup, 1) := by decide +kernel
theorem dX12_number_64 : decode cX12_number 64 = .ok (.getfield 206, 3) := by decide +kernel
theorem dX12_number_67 : decode cX12_number 67 = .ok (.iconst 1, 1) := by decide +kernel
theorem dX12_number_68 : decode cX12_number 68 = .ok (.iadd, 1) := by decide +kernel
theorem dX12_number_69 : decode cX12_number 69 = .ok (.putfield 206, 3) := by decide +kernel
theorem dX12_number_72 : decode cX12_number 72 = .ok (.goto (-67), 3) := by decide +kernel
theorem dX12_number_75 : decode cX12_number 75 = .ok (.aload_n 0, 1) := by decide +kernel
theorem dX12_number_76 : decode cX12_number 76 = .ok (.aload_n 0, 1) := by decide +kernel
theorem dX12_number_77 : decode cX12_number 77 = .ok (.getfield 206, 3) := by decide +kernel
theorem dX12_number_80 : decode cX12_number 80 = .ok (.aload_n 0, 1) := by decide +kernel
theorem dX12_number_81 : decode cX12_number 81 = .ok (.getfield 212, 3) := by decide +kernel
theorem dX12_number_84 : decode cX12_number 84 = .ok (.isub, 1) := by decide +kernel
theorem dX12_number_85 : decode cX12_number 85 = .ok (.iconst 5, 1) := by decide +kernel
theorem dX12_number_86 : decode cX12_number 86 = .ok (.if_icmp .le 7, 3) := by decide +kernel
theorem dX12_number_89 : decode cX12_number 89 = .ok (.iconst 2, 1) := by decide +kernel
theorem dX12_number_90 : decode cX12_number 90 = .ok (.goto 4, 3) := by decide +kernel
theorem dX12_number_93 : decode cX12_number 93 = .ok (.iconst 1, 1) := by decide +kernel
theorem dX12_number_94 : decode cX12_number 94 = .ok (.putfield 215, 3) := by decide +kernel
theorem dX12_number_97 : decode cX12_number 97 = .ok (.return_, 1) := by decide +kernel
theorem dX12_price_0 : decode cX12_price 0 = .ok (.iload_n 1, 1) := by decide +kernel
theorem dX12_price_1 : decode cX12_price 1 = .ok (.iconst 0, 1) := by decide +kernel
theorem dX12_price_2 : decode cX12_price 2 = .ok (.iconst 1, 1) := by decide +kernel
theorem dX12_price_3 : decode cX12_price 3 = .ok (.aload_n 0, 1) := by decide +kernel
theorem dX12_price_4 : decode cX12_price 4 = .ok (.getfield 152, 3) := by decide +kernel
theorem dX12_price_7 : decode cX12_price 7 = .ok (.ishl, 1) := by decide +kernel
theorem dX12_price_8 : decode cX12_price 8 = .ok (.iconst 1, 1) := by decide +kernel
theorem dX12_price_9 : decode cX12_price 9 = .ok (.isub, 1) := by decide +kernel
theorem dX12_price_10 : decode cX12_price 10 = .ok (.invokestatic 155, 3) := by decide +kernel
theorem dX12_price_13 : decode cX12_price 13 = .ok (.ifCond .eq 11, 3) := by decide +kernel
theorem dX12_price_16 : decode cX12_price 16 = .ok (.aload_n 0, 1) := by decide +kernel
theorem dX12_price_17 : decode cX12_price 17 = .ok (.iload_n 1, 1) := by decide +kernel
theorem dX12_price_18 : decode cX12_price 18 = .ok (.invokevirtual 354, 3) := by decide +kernel
theorem dX12_price_21 : decode cX12_price 21 = .ok (.goto 5, 3) := by decide +kernel
theorem dX12_price_24 : decode cX12_price 24 = .ok (.bipush (-2), 2) := by decide +kernel
theorem dX12_price_26 : decode cX12_price 26 = .ok (.ireturn, 1) := by decide +kernel
theorem dX12_week_0 : decode cX12_week 0 = .ok (.iconst 0, 1) := by decide +kernel
theorem dX12_week_1 : decode cX12_week 1 = .ok (.istore_n 3, 1) := by decide +kernel
theorem dX12_week_2 : decode cX12_week 2 = .ok (.iconst 0, 1) := by decide +kernel
theorem dX12_week_3 : decode cX12_week 3 = .ok (.istore 4, 2) := by decide +kernel
theorem dX12_week_5 : decode cX12_week 5 = .ok (.iload 4, 2) := by decide +kernel
theorem dX12_week_7 : decode cX12_week 7 = .ok (.aload_n 0, 1) := by decide +kernel
theorem dX12_week_8 : decode cX12_week 8 = .ok (.getfield 162, 3) := by decide +kernel
theorem dX12_week_11 : decode cX12_week 11 = .ok (.if_icmp .ge 62, 3) := by decide +kernel
theorem dX12_week_14 : decode cX12_week 14 = .ok (.iload_n 3, 1) := by decide +kernel
theorem dX12_week_15 : decode cX12_week 15 = .ok (.iload 4, 2) := by decide +kernel
theorem dX12_week_17 : decode cX12_week 17 = .ok (.iload_n 1, 1) := by decide +kernel
theorem dX12_week_18 : decode cX12_week 18 = .ok (.if_icmp .eq 46, 3) := by decide +kernel
theorem dX12_week_21 : decode cX12_week 21 = .ok (.aload_n 0, 1) := by decide +kernel
theorem dX12_week_22 : decode cX12_week 22 = .ok (.getfield 49, 3) := by decide +kernel
theorem dX12_week_25 : decode cX12_week 25 = .ok (.iload 4, 2) := by decide +kernel
theorem dX12_week_27 : decode cX12_week 27 = .ok (.iaload, 1) := by decide +kernel
theorem dX12_week_28 : decode cX12_week 28 = .ok (.bipush 7, 2) := by decide +kernel
theorem dX12_week_30 : decode cX12_week 30 = .ok (.idiv, 1) := by decide +kernel
theorem dX12_week_31 : decode cX12_week 31 = .ok (.aload_n 0, 1) := by decide +kernel
theorem dX12_week_32 : decode cX12_week 32 = .ok (.getfield 49, 3) := by decide +kernel
theorem dX12_week_35 : decode cX12_week 35 = .ok (.iload_n 1, 1) := by decide +kernel
theorem dX12_week_36 : decode cX12_week 36 = .ok (.iaload, 1) := by decide +kernel
theorem dX12_week_37 : decode cX12_week 37 = .ok (.bipush 7, 2) := by decide +kernel
theorem dX12_week_39 : decode cX12_week 39 = .ok (.idiv, 1) := by decide +kernel
theorem dX12_week_40 : decode cX12_week 40 = .ok (.if_icmp .ne 24, 3) := by decide +kernel
theorem dX12_week_43 : decode cX12_week 43 = .ok (.aload_n 0, 1) := by decide +kernel
theorem dX12_week_44 : decode cX12_week 44 = .ok (.iload 4, 2) := by decide +kernel
theorem dX12_week_46 : decode cX12_week 46 = .ok (.iload_n 2, 1) := by decide +kernel
theorem dX12_week_47 : decode cX12_week 47 = .ok (.invokevirtual 182, 3) := by decide +kernel
theorem dX12_week_50 : decode cX12_week 50 = .ok (.iconst (-1), 1) := by decide +kernel
theorem dX12_week_51 : decode cX12_week 51 = .ok (.if_icmp .eq 13, 3) := by decide +kernel
theorem dX12_week_54 : decode cX12_week 54 = .ok (.aload_n 0, 1) := by decide +kernel
theorem dX12_week_55 : decode cX12_week 55 = .ok (.getfield 55, 3) := by decide +kernel
theorem dX12_week_58 : decode cX12_week 58 = .ok (.iload 4, 2) := by decide +kernel
theorem dX12_week_60 : decode cX12_week 60 = .ok (.iaload, 1) := by decide +kernel
theorem dX12_week_61 : decode cX12_week 61 = .ok (.goto 4, 3) := by decide +kernel
theorem dX12_week_64 : decode cX12_week 64 = .ok (.iconst 0, 1) := by decide +kernel
theorem dX12_week_65 : decode cX12_week 65 = .ok (.iadd, 1) := by decide +kernel
theorem dX12_week_66 : decode cX12_week 66 = .ok (.istore_n 3, 1) := by decide +kernel
theorem dX12_week_67 : decode cX12_week 67 = .ok (.iinc 4 1, 3) := by decide +kernel
theorem dX12_week_70 : decode cX12_week 70 = .ok (.goto (-65), 3) := by decide +kernel
theorem dX12_week_73 : decode cX12_week 73 = .ok (.iload_n 3, 1) := by decide +kernel
theorem dX12_week_74 : decode cX12_week 74 = .ok (.ireturn, 1) := by decide +kernel
theorem dX12_word_0 : decode cX12_word 0 = .ok (.aload_n 0, 1) := by decide +kernel
theorem dX12_word_1 : decode cX12_word 1 = .ok (.aload_n 0, 1) := by decide +kernel
theorem dX12_word_2 : decode cX12_word 2 = .ok (.getfield 206, 3) := by decide +kernel
theorem dX12_word_5 : decode cX12_word 5 = .ok (.invokevirtual 209, 3) := by decide +kernel
theorem dX12_word_8 : decode cX12_word 8 = .ok (.invokestatic 218, 3) := by decide +kernel
theorem dX12_word_11 : decode cX12_word 11 = .ok (.ifCond .eq 16, 3) := by decide +kernel
theorem dX12_word_14 : decode cX12_word 14 = .ok (.aload_n 0, 1) := by decide +kernel
theorem dX12_word_15 : decode cX12_word 15 = .ok (.dup, 1) := by decide +kernel
theorem dX12_word_16 : decode cX12_word 16 = .ok (.getfield 206, 3) := by decide +kernel
theorem dX12_word_19 : decode cX12_word 19 = .ok (.iconst 1, 1) := by decide +kernel
theorem dX12_word_20 : decode cX12_word 20 = .ok (.iadd, 1) := by decide +kernel
theorem dX12_word_21 : decode cX12_word 21 = .ok (.putfield 206, 3) := by decide +kernel
theorem dX12_word_24 : decode cX12_word 24 = .ok (.goto (-24), 3) := by decide +kernel
theorem dX12_word_27 : decode cX12_word 27 = .ok (.iconst 0, 1) := by decide +kernel
theorem dX12_word_28 : decode cX12_word 28 = .ok (.istore_n 1, 1) := by decide +kernel
theorem dX12_word_29 : decode cX12_word 29 = .ok (.iconst 0, 1) := by decide +kernel
theorem dX12_word_30 : decode cX12_word 30 = .ok (.istore_n 2, 1) := by decide +kernel
theorem dX12_word_31 : decode cX12_word 31 = .ok (.iconst 1, 1) := by decide +kernel
theorem dX12_word_32 : decode cX12_word 32 = .ok (.istore_n 3, 1) := by decide +kernel
theorem dX12_word_33 : decode cX12_word 33 = .ok (.aload_n 0, 1) := by decide +kernel
theorem dX12_word_34 : decode cX12_word 34 = .ok (.iconst 2, 1) := by decide +kernel
theorem dX12_word_35 : decode cX12_word 35 = .ok (.putfield 215, 3) := by decide +kernel
theorem dX12_word_38 : decode cX12_word 38 = .ok (.iconst 0, 1) := by decide +kernel
theorem dX12_word_39 : decode cX12_word 39 = .ok (.istore 4, 2) := by decide +kernel
theorem dX12_word_41 : decode cX12_word 41 = .ok (.iload 4, 2) := by decide +kernel
theorem dX12_word_43 : decode cX12_word 43 = .ok (.aload_n 0, 1) := by decide +kernel
theorem dX12_word_44 : decode cX12_word 44 = .ok (.getfield 114, 3) := by decide +kernel
theorem dX12_word_47 : decode cX12_word 47 = .ok (.arraylength, 1) := by decide +kernel
theorem dX12_word_48 : decode cX12_word 48 = .ok (.if_icmp .ge 119, 3) := by decide +kernel
theorem dX12_word_51 : decode cX12_word 51 = .ok (.aload_n 0, 1) := by decide +kernel
theorem dX12_word_52 : decode cX12_word 52 = .ok (.getfield 114, 3) := by decide +kernel
theorem dX12_word_55 : decode cX12_word 55 = .ok (.iload 4, 2) := by decide +kernel
theorem dX12_word_57 : decode cX12_word 57 = .ok (.iaload, 1) := by decide +kernel
theorem dX12_word_58 : decode cX12_word 58 = .ok (.ifCond .ne 57, 3) := by decide +kernel
theorem dX12_word_61 : decode cX12_word 61 = .ok (.iload_n 3, 1) := by decide +kernel
theorem dX12_word_62 : decode cX12_word 62 = .ok (.ifCond .eq 43, 3) := by decide +kernel
theorem dX12_word_65 : decode cX12_word 65 = .ok (.iload_n 2, 1) := by decide +kernel
theorem dX12_word_66 : decode cX12_word 66 = .ok (.aload_n 0, 1) := by decide +kernel
theorem dX12_word_67 : decode cX12_word 67 = .ok (.getfield 206, 3) := by decide +kernel
theorem dX12_word_70 : decode cX12_word 70 = .ok (.aload_n 0, 1) := by decide +kernel
theorem dX12_word_71 : decode cX12_word 71 = .ok (.getfield 212, 3) := by decide +kernel
theorem dX12_word_74 : decode cX12_word 74 = .ok (.isub, 1) := by decide +kernel
theorem dX12_word_75 : decode cX12_word 75 = .ok (.if_icmp .ne 30, 3) := by decide +kernel
theorem dX12_word_78 : decode cX12_word 78 = .ok (.aload_n 0, 1) := by decide +kernel
theorem dX12_word_79 : decode cX12_word 79 = .ok (.iload_n 1, 1) := by decide +kernel
theorem dX12_word_80 : decode cX12_word 80 = .ok (.bipush 10, 2) := by decide +kernel
theorem dX12_word_82 : decode cX12_word 82 = .ok (.if_icmp .ge 7, 3) := by decide +kernel
theorem dX12_word_85 : decode cX12_word 85 = .ok (.iconst 3, 1) := by decide +kernel
theorem dX12_word_86 : decode cX12_word 86 = .ok (.goto 11, 3) := by decide +kernel
theorem dX12_word_89 : decode cX12_word 89 = .ok (.sipush 300, 3) := by decide +kernel
theorem dX12_word_92 : decode cX12_word 92 = .ok (.iload_n 1, 1) := by decide +kernel
theorem dX12_word_93 : decode cX12_word 93 = .ok (.iadd, 1) := by decide +kernel
theorem dX12_word_94 : decode cX12_word 94 = .ok (.bipush 10, 2) := by decide +kernel
theorem dX12_word_96 : decode cX12_word 96 = .ok (.isub, 1) := by decide +kernel
theorem dX12_word_97 : decode cX12_word 97 = .ok (.putfield 215, 3) := by decide +kernel
theorem dX12_word_100 : decode cX12_word 100 = .ok (.aload_n 0, 1) := by decide +kernel
theorem dX12_word_101 : decode cX12_word 101 = .ok (.iload_n 1, 1) := by decide +kernel
theorem dX12_word_102 : decode cX12_word 102 = .ok (.putfield 230, 3) := by decide +kernel
theorem dX12_word_105 : decode cX12_word 105 = .ok (.iinc 1 1, 3) := by decide +kernel
theorem dX12_word_108 : decode cX12_word 108 = .ok (.iconst 0, 1) := by decide +kernel
theorem dX12_word_109 : decode cX12_word 109 = .ok (.istore_n 2, 1) := by decide +kernel
theorem dX12_word_110 : decode cX12_word 110 = .ok (.iconst 1, 1) := by decide +kernel
theorem dX12_word_111 : decode cX12_word 111 = .ok (.istore_n 3, 1) := by decide +kernel
theorem dX12_word_112 : decode cX12_word 112 = .ok (.goto 49, 3) := by decide +kernel
theorem dX12_word_115 : decode cX12_word 115 = .ok (.iload_n 3, 1) := by decide +kernel
theorem dX12_word_116 : decode cX12_word 116 = .ok (.ifCond .eq 40, 3) := by decide +kernel
theorem dX12_word_119 : decode cX12_word 119 = .ok (.aload_n 0, 1) := by decide +kernel
theorem dX12_word_120 : decode cX12_word 120 = .ok (.aload_n 0, 1) := by decide +kernel
theorem dX12_word_121 : decode cX12_word 121 = .ok (.getfield 212, 3) := by decide +kernel
theorem dX12_word_124 : decode cX12_word 124 = .ok (.iload_n 2, 1) := by decide +kernel
theorem dX12_word_125 : decode cX12_word 125 = .ok (.iadd, 1) := by decide +kernel
theorem dX12_word_126 : decode cX12_word 126 = .ok (.invokevirtual 209, 3) := by decide +kernel
theorem dX12_word_129 : decode cX12_word 129 = .ok (.aload_n 0, 1) := by decide +kernel
theorem dX12_word_130 : decode cX12_word 130 = .ok (.getfield 114, 3) := by decide +kernel
theorem dX12_word_133 : decode cX12_word 133 = .ok (.iload 4, 2) := by decide +kernel
theorem dX12_word_135 : decode cX12_word 135 = .ok (.iaload, 1) := by decide +kernel
theorem dX12_word_136 : decode cX12_word 136 = .ok (.if_icmp .ne 20, 3) := by decide +kernel
theorem dX12_word_139 : decode cX12_word 139 = .ok (.iload_n 2, 1) := by decide +kernel
theorem dX12_word_140 : decode cX12_word 140 = .ok (.aload_n 0, 1) := by decide +kernel
theorem dX12_word_141 : decode cX12_word 141 = .ok (.getfield 206, 3) := by decide +kernel
theorem dX12_word_144 : decode cX12_word 144 = .ok (.aload_n 0, 1) := by decide +kernel
theorem dX12_word_145 : decode cX12_word 145 = .ok (.getfield 212, 3) := by decide +kernel
theorem dX12_word_148 : decode cX12_word 148 = .ok (.isub, 1) := by decide +kernel
theorem dX12_word_149 : decode cX12_word 149 = .ok (.if_icmp .ge 7, 3) := by decide +kernel
theorem dX12_word_152 : decode cX12_word 152 = .ok (.iconst 1, 1) := by decide +kernel
theorem dX12_word_153 : decode cX12_word 153 = .ok (.goto 4, 3) := by decide +kernel
theorem dX12_word_156 : decode cX12_word 156 = .ok (.iconst 0, 1) := by decide +kernel
theorem dX12_word_157 : decode cX12_word 157 = .ok (.istore_n 3, 1) := by decide +kernel
theorem dX12_word_158 : decode cX12_word 158 = .ok (.iinc 2 1, 3) := by decide +kernel
theorem dX12_word_161 : decode cX12_word 161 = .ok (.iinc 4 1, 3) := by decide +kernel
theorem dX12_word_164 : decode cX12_word 164 = .ok (.goto (-123), 3) := by decide +kernel
theorem dX12_word_167 : decode cX12_word 167 = .ok (.return_, 1) := by decide +kernel
theorem dX12_work_0 : decode cX12_work 0 = .ok (.iload_n 1, 1) := by decide +kernel
theorem dX12_work_1 : decode cX12_work 1 = .ok (.iconst 1, 1) := by decide +kernel
theorem dX12_work_2 : decode cX12_work 2 = .ok (.bipush 90, 2) := by decide +kernel
theorem dX12_work_4 : decode cX12_work 4 = .ok (.invokestatic 155, 3) := by decide +kernel
theorem dX12_work_7 : decode cX12_work 7 = .ok (.ifCond .eq 25, 3) := by decide +kernel
theorem dX12_work_10 : decode cX12_work 10 = .ok (.iload_n 2, 1) := by decide +kernel
theorem dX12_work_11 : decode cX12_work 11 = .ok (.iconst 0, 1) := by decide +kernel
theorem dX12_work_12 : decode cX12_work 12 = .ok (.sipush 1000, 3) := by decide +kernel
theorem dX12_work_15 : decode cX12_work 15 = .ok (.invokestatic 155, 3) := by decide +kernel
theorem dX12_work_18 : decode cX12_work 18 = .ok (.ifCond .eq 14, 3) := by decide +kernel
theorem dX12_work_21 : decode cX12_work 21 = .ok (.iload_n 3, 1) := by decide +kernel
theorem dX12_work_22 : decode cX12_work 22 = .ok (.iconst 0, 1) := by decide +kernel
theorem dX12_work_23 : decode cX12_work 23 = .ok (.sipush 4095, 3) := by decide +kernel
theorem dX12_work_26 : decode cX12_work 26 = .ok (.invokestatic 155, 3) := by decide +kernel
theorem dX12_work_29 : decode cX12_work 29 = .ok (.ifCond .ne 6, 3) := by decide +kernel
theorem dX12_work_32 : decode cX12_work 32 = .ok (.bipush (-2), 2) := by decide +kernel
theorem dX12_work_34 : decode cX12_work 34 = .ok (.ireturn, 1) := by decide +kernel
theorem dX12_work_35 : decode cX12_work 35 = .ok (.aload_n 0, 1) := by decide +kernel
theorem dX12_work_36 : decode cX12_work 36 = .ok (.getfield 152, 3) := by decide +kernel
theorem dX12_work_39 : decode cX12_work 39 = .ok (.bipush 12, 2) := by decide +kernel
theorem dX12_work_41 : decode cX12_work 41 = .ok (.if_icmp .ne 6, 3) := by decide +kernel
theorem dX12_work_44 : decode cX12_work 44 = .ok (.bipush (-4), 2) := by decide +kernel
theorem dX12_work_46 : decode cX12_work 46 = .ok (.ireturn, 1) := by decide +kernel
theorem dX12_work_47 : decode cX12_work 47 = .ok (.aload_n 0, 1) := by decide +kernel
theorem dX12_work_48 : decode cX12_work 48 = .ok (.getfield 7, 3) := by decide +kernel
theorem dX12_work_51 : decode cX12_work 51 = .ok (.aload_n 0, 1) := by decide +kernel
theorem dX12_work_52 : decode cX12_work 52 = .ok (.getfield 152, 3) := by decide +kernel
theorem dX12_work_55 : decode cX12_work 55 = .ok (.iload_n 1, 1) := by decide +kernel
theorem dX12_work_56 : decode cX12_work 56 = .ok (.iastore, 1) := by decide +kernel
theorem dX12_work_57 : decode cX12_work 57 = .ok (.aload_n 0, 1) := by decide +kernel
theorem dX12_work_58 : decode cX12_work 58 = .ok (.getfield 13, 3) := by decide +kernel
theorem dX12_work_61 : decode cX12_work 61 = .ok (.aload_n 0, 1) := by decide +kernel
theorem dX12_work_62 : decode cX12_work 62 = .ok (.getfield 152, 3) := by decide +kernel
theorem dX12_work_65 : decode cX12_work 65 = .ok (.iload_n 2, 1) := by decide +kernel
theorem dX12_work_66 : decode cX12_work 66 = .ok (.iastore, 1) := by decide +kernel
theorem dX12_work_67 : decode cX12_work 67 = .ok (.aload_n 0, 1) := by decide +kernel
theorem dX12_work_68 : decode cX12_work 68 = .ok (.getfield 16, 3) := by decide +kernel
theorem dX12_work_71 : decode cX12_work 71 = .ok (.aload_n 0, 1) := by decide +kernel
theorem dX12_work_72 : decode cX12_work 72 = .ok (.getfield 152, 3) := by decide +kernel
theorem dX12_work_75 : decode cX12_work 75 = .ok (.iload_n 3, 1) := by decide +kernel
theorem dX12_work_76 : decode cX12_work 76 = .ok (.iastore, 1) := by decide +kernel
theorem dX12_work_77 : decode cX12_work 77 = .ok (.aload_n 0, 1) := by decide +kernel
theorem dX12_work_78 : decode cX12_work 78 = .ok (.getfield 19, 3) := by decide +kernel
theorem dX12_work_81 : decode cX12_work 81 = .ok (.aload_n 0, 1) := by decide +kernel
theorem dX12_work_82 : decode cX12_work 82 = .ok (.getfield 152, 3) := by decide +kernel
theorem dX12_work_85 : decode cX12_work 85 = .ok (.iconst 0, 1) := by decide +kernel
theorem dX12_work_86 : decode cX12_work 86 = .ok (.iastore, 1) := by decide +kernel
theorem dX12_work_87 : decode cX12_work 87 = .ok (.aload_n 0, 1) := by decide +kernel
theorem dX12_work_88 : decode cX12_work 88 = .ok (.dup, 1) := by decide +kernel
theorem dX12_work_89 : decode cX12_work 89 = .ok (.getfield 152, 3) := by decide +kernel
theorem dX12_work_92 : decode cX12_work 92 = .ok (.iconst 1, 1) := by decide +kernel
theorem dX12_work_93 : decode cX12_work 93 = .ok (.iadd, 1) := by decide +kernel
theorem dX12_work_94 : decode cX12_work 94 = .ok (.putfield 152, 3) := by decide +kernel
theorem dX12_work_97 : decode cX12_work 97 = .ok (.aload_n 0, 1) := by decide +kernel
theorem dX12_work_98 : decode cX12_work 98 = .ok (.getfield 152, 3) := by decide +kernel
theorem dX12_work_101 : decode cX12_work 101 = .ok (.iconst 1, 1) := by decide +kernel
theorem dX12_work_102 : decode cX12_work 102 = .ok (.isub, 1) := by decide +kernel
theorem dX12_work_103 : decode cX12_work 103 = .ok (.ireturn, 1) := by decide +kernel
theorem dX12_chairs_0 : decode cX12_chairs 0 = .ok (.iconst 0, 1) := by decide +kernel
theorem dX12_chairs_1 : decode cX12_chairs 1 = .ok (.istore_n 3, 1) := by decide +kernel
theorem dX12_chairs_2 : decode cX12_chairs 2 = .ok (.iconst 0, 1) := by decide +kernel
theorem dX12_chairs_3 : decode cX12_chairs 3 = .ok (.istore 4, 2) := by decide +kernel
theorem dX12_chairs_5 : decode cX12_chairs 5 = .ok (.iload 4, 2) := by decide +kernel
theorem dX12_chairs_7 : decode cX12_chairs 7 = .ok (.bipush 6, 2) := by decide +kernel
theorem dX12_chairs_9 : decode cX12_chairs 9 = .ok (.if_icmp .ge 20, 3) := by decide +kernel
theorem dX12_chairs_12 : decode cX12_chairs 12 = .ok (.iload_n 3, 1) := by decide +kernel
theorem dX12_chairs_13 : decode cX12_chairs 13 = .ok (.aload_n 0, 1) := by decide +kernel
theorem dX12_chairs_14 : decode cX12_chairs 14 = .ok (.iload_n 1, 1) := by decide +kernel
theorem dX12_chairs_15 : decode cX12_chairs 15 = .ok (.iload 4, 2) := by decide +kernel
theorem dX12_chairs_17 : decode cX12_chairs 17 = .ok (.iload_n 2, 1) := by decide +kernel
theorem dX12_chairs_18 : decode cX12_chairs 18 = .ok (.invokevirtual 189, 3) := by decide +kernel
theorem dX12_chairs_21 : decode cX12_chairs 21 = .ok (.iadd, 1) := by decide +kernel
theorem dX12_chairs_22 : decode cX12_chairs 22 = .ok (.istore_n 3, 1) := by decide +kernel
theorem dX12_chairs_23 : decode cX12_chairs 23 = .ok (.iinc 4 1, 3) := by decide +kernel
theorem dX12_chairs_26 : decode cX12_chairs 26 = .ok (.goto (-21), 3) := by decide +kernel
theorem dX12_chairs_29 : decode cX12_chairs 29 = .ok (.iload_n 3, 1) := by decide +kernel
theorem dX12_chairs_30 : decode cX12_chairs 30 = .ok (.ireturn, 1) := by decide +kernel
theorem w_X12_begins (l : Launch) (p1 : Int32) (M : o_M) (q : Int32 → o_M → Prop) (h : (mR M 60 16 = some 77 ∧ (vp_in p1 (mN M 77) ∧ (mR M 60 17 = some 78 ∧ (vp_in p1 (mN M 78) ∧ q ((24 * (mI M 77 p1.toNatClampNeg)) + (mI M 78 p1.toNatClampNeg)) M))))) : K_X12_begins l [rV (some 60), iV p1] M q := by
  refine o_ctr (ini := false) (by decide +kernel) rfl (fun z => by cases z) (Nat.le_of_ble_eq_true rfl) ?_
  show E_X12_begins l q 0 [(0, rV (some 60)), (1, iV p1)] [] M 0 0
  refine e_bipush (v := 24) dX12_begins_0 (by decide) ?_
  refine e_aload_n dX12_begins_2 rfl rfl ?_
  obtain ⟨o1, h⟩ := h
  refine e_gA flX12_49 rfl rfl o1 dX12_begins_3 ?_
  refine e_iload_n dX12_begins_6 rfl rfl ?_
  obtain ⟨o2, h⟩ := h
  refine e_iald rfl o2 dX12_begins_7 ?_
  refine e_imul dX12_begins_8 ?_
  refine e_aload_n dX12_begins_9 rfl rfl ?_
  obtain ⟨o3, h⟩ := h
  refine e_gA flX12_52 rfl rfl o3 dX12_begins_10 ?_
  refine e_iload_n dX12_begins_13 rfl rfl ?_
  obtain ⟨o4, h⟩ := h
  refine e_iald rfl o4 dX12_begins_14 ?_
  refine e_iadd dX12_begins_15 ?_
  exact e_iret rfl trivial dX12_begins_16 ⟨_, rfl, h⟩
theorem w_X12_byteAt (l : Launch) (p1 : Int32) (M : o_M) (q : Int32 → o_M → Prop) (h : (mR M 60 26 = some 87 ∧ (vp_in (mI M 60 42) (mN M 87) ∧ (((mI M 87 (mI M 60 42).toNatClampNeg) ≤ p1 → q (-1) M) ∧ (¬ (mI M 87 (mI M 60 42).toNatClampNeg) ≤ p1 → (mR M 60 27 = some 88 ∧ (vp_in ((300 * (mI M 60 42)) + p1) (mN M 88) ∧ q (mI M 88 ((300 * (mI M 60 42)) + p1).toNatClampNeg) M))))))) : K_X12_byteAt l [rV (some 60), iV p1] M q := by
  refine o_ctr (ini := false) (by decide +kernel) rfl (fun z => by cases z) (Nat.le_of_ble_eq_true rfl) ?_
  show E_X12_byteAt l q 0 [(0, rV (some 60)), (1, iV p1)] [] M 0 0
  refine e_iload_n dX12_byteAt_0 rfl rfl ?_
  refine e_aload_n dX12_byteAt_1 rfl rfl ?_
  obtain ⟨o1, h⟩ := h
  refine e_gA flX12_74 rfl rfl o1 dX12_byteAt_2 ?_
  refine e_aload_n dX12_byteAt_5 rfl rfl ?_
  refine e_gI flX12_203 rfl rfl dX12_byteAt_6 ?_
  obtain ⟨o2, h⟩ := h
  refine e_iald rfl o2 dX12_byteAt_9 ?_
  refine e_ic_ge (tgt := 31) dX12_byteAt_10 (by decide) (fun c3 => ?_) (fun c3 => ?_)
  · replace h := h.1 c3
    refine e_iconst (v := (-1)) dX12_byteAt_31 (by decide) ?_
    exact e_iret rfl trivial dX12_byteAt_32 ⟨_, rfl, h⟩
  · replace h := h.2 c3
    refine e_aload_n dX12_byteAt_13 rfl rfl ?_
    obtain ⟨o4, h⟩ := h
    refine e_gA flX12_77 rfl rfl o4 dX12_byteAt_14 ?_
    refine e_sipush (v := 300) dX12_byteAt_17 (by decide) ?_
    refine e_aload_n dX12_byteAt_20 rfl rfl ?_
    refine e_gI flX12_203 rfl rfl dX12_byteAt_21 ?_
    refine e_imul dX12_byteAt_24 ?_
    refine e_iload_n dX12_byteAt_25 rfl rfl ?_
    refine e_iadd dX12_byteAt_26 ?_
    obtain ⟨o5, h⟩ := h
    refine e_iald rfl o5 dX12_byteAt_27 ?_
    refine e_goto (tgt := 32) dX12_byteAt_28 (by decide) ?_
    exact e_iret rfl trivial dX12_byteAt_32 ⟨_, rfl, h⟩
theorem w_X12_cannot (l : Launch) (M : o_M) (q : o_M → Prop) (h : ((¬ (mI M 60 47) = (-1) → q (sI M 60 47 (mI M 60 47))) ∧ ((mI M 60 47) = (-1) → q (sI M 60 47 (mI M 60 44))))) : K_X12_cannot l [rV (some 60)] M q := by
  refine o_ctr (ini := false) (by decide +kernel) rfl (fun z => by cases z) (Nat.le_of_ble_eq_true rfl) ?_
  show E_X12_cannot l q 0 [(0, rV (some 60))] [] M 0 0
  refine e_aload_n dX12_cannot_0 rfl rfl ?_
  refine e_aload_n dX12_cannot_1 rfl rfl ?_
  refine e_gI flX12_233 rfl rfl dX12_cannot_2 ?_
  refine e_iconst (v := (-1)) dX12_cannot_5 (by decide) ?_
  refine e_ic_ne (tgt := 16) dX12_cannot_6 (by decide) (fun c1 => ?_) (fun c1 => ?_)
  · replace h := h.1 c1
    refine e_aload_n dX12_cannot_16 rfl rfl ?_
    refine e_gI flX12_233 rfl rfl dX12_cannot_17 ?_
    refine e_pI flX12_233 rfl (Or.inl rfl) rfl rfl rfl dX12_cannot_20 ?_
    exact e_ret rfl dX12_cannot_23 ⟨rfl, h⟩
  · replace h := h.2 c1
    refine e_aload_n dX12_cannot_9 rfl rfl ?_
    refine e_gI flX12_212 rfl rfl dX12_cannot_10 ?_
    refine e_goto (tgt := 20) dX12_cannot_13 (by decide) ?_
    refine e_pI flX12_233 rfl (Or.inl rfl) rfl rfl rfl dX12_cannot_20 ?_
    exact e_ret rfl dX12_cannot_23 ⟨rfl, h⟩
abbrev H_X12_chairOf_2 (l : Launch) (q : Int32 → o_M → Prop) (v1 : Int32) (v2 : Int32) (v3 : Int32) (M : o_M) : Prop := E_X12_chairOf l q 2 [(0, rV (some 60)), (1, iV v1), (2, iV v2), (3, iV v3)] [] M 0 0
theorem w_X12_chairOf (l : Launch) (p1 : Int32) (p2 : Int32) (M : o_M) (q : Int32 → o_M → Prop) (h : H_X12_chairOf_2 l q p1 p2 0 M) : K_X12_chairOf l [rV (some 60), iV p1, iV p2] M q := by
  refine o_ctr (ini := false) (by decide +kernel) rfl (fun z => by cases z) (Nat.le_of_ble_eq_true rfl) ?_
  show E_X12_chairOf l q 0 [(0, rV (some 60)), (1, iV p1), (2, iV p2)] [] M 0 0
  refine e_iconst (v := 0) dX12_chairOf_0 (by decide) ?_
  refine e_istore_n (lv' := [(3, iV 0), (0, rV (some 60)), (1, iV p1), (2, iV p2)]) dX12_chairOf_1 rfl (by decide) rfl ?_
  exact e_lv (List.forall_mem_cons.mpr ⟨rfl, List.forall_mem_cons.mpr ⟨rfl, List.forall_mem_cons.mpr ⟨rfl, List.forall_mem_cons.mpr ⟨rfl, fun _ h => absurd h List.not_mem_nil⟩⟩⟩⟩) h
theorem w_X12_chairOf_2 (l : Launch) (q : Int32 → o_M → Prop) (v1 : Int32) (v2 : Int32) (v3 : Int32) (M : o_M) (h : ((12 ≤ v3 → q (-1) M) ∧ (¬ 12 ≤ v3 → (mR M 60 22 = some 83 ∧ (vp_in v1 (mN M 83) ∧ (((mI M 83 v1.toNatClampNeg) = 0 → q (-1) M) ∧ (¬ (mI M 83 v1.toNatClampNeg) = 0 → (mR M 60 21 = some 82 ∧ (vp_in ((12 * v1) + v3) (mN M 82) ∧ ((¬ (mI M 82 ((12 * v1) + v3).toNatClampNeg) = v2 → H_X12_chairOf_2 l q v1 v2 (v3 + 1) M) ∧ ((mI M 82 ((12 * v1) + v3).toNatClampNeg) = v2 → q v3 M))))))))))) : H_X12_chairOf_2 l q v1 v2 v3 M := by
  refine e_iload_n dX12_chairOf_2 rfl rfl ?_
  refine e_bipush (v := 12) dX12_chairOf_3 (by decide) ?_
  refine e_ic_ge (tgt := 40) dX12_chairOf_5 (by decide) (fun c1 => ?_) (fun c1 => ?_)
  · replace h := h.1 c1
    refine e_iconst (v := (-1)) dX12_chairOf_40 (by decide) ?_
    exact e_iret rfl trivial dX12_chairOf_41 ⟨_, rfl, h⟩
  · replace h := h.2 c1
    refine e_aload_n dX12_chairOf_8 rfl rfl ?_
    obtain ⟨o2, h⟩ := h
    refine e_gA flX12_67 rfl rfl o2 dX12_chairOf_9 ?_
    refine e_iload_n dX12_chairOf_12 rfl rfl ?_
    obtain ⟨o3, h⟩ := h
    refine e_zald rfl o3 dX12_chairOf_13 ?_
    refine e_if_eq (tgt := 40) dX12_chairOf_14 (by decide) (fun c4 => ?_) (fun c4 => ?_)
    · replace h := h.1 c4
      refine e_iconst (v := (-1)) dX12_chairOf_40 (by decide) ?_
      exact e_iret rfl trivial dX12_chairOf_41 ⟨_, rfl, h⟩
    · replace h := h.2 c4
      refine e_aload_n dX12_chairOf_17 rfl rfl ?_
      obtain ⟨o5, h⟩ := h
      refine e_gA flX12_64 rfl rfl o5 dX12_chairOf_18 ?_
      refine e_bipush (v := 12) dX12_chairOf_21 (by decide) ?_
      refine e_iload_n dX12_chairOf_23 rfl rfl ?_
      refine e_imul dX12_chairOf_24 ?_
      refine e_iload_n dX12_chairOf_25 rfl rfl ?_
      refine e_iadd dX12_chairOf_26 ?_
      obtain ⟨o6, h⟩ := h
      refine e_iald rfl o6 dX12_chairOf_27 ?_
      refine e_iload_n dX12_chairOf_28 rfl rfl ?_
      refine e_ic_ne (tgt := 34) dX12_chairOf_29 (by decide) (fun c7 => ?_) (fun c7 => ?_)
      · replace h := h.1 c7
        refine e_iinc (v := 1) (lv' := [(3, iV (v3 + 1)), (0, rV (some 60)), (1, iV v1), (2, iV v2)]) rfl (by decide) (by decide) rfl dX12_chairOf_34 ?_
        refine e_goto (tgt := 2) dX12_chairOf_37 (by decide) ?_
        exact e_lv (List.forall_mem_cons.mpr ⟨rfl, List.forall_mem_cons.mpr ⟨rfl, List.forall_mem_cons.mpr ⟨rfl, List.forall_mem_cons.mpr ⟨rfl, fun _ h => absurd h List.not_mem_nil⟩⟩⟩⟩) h
      · replace h := h.2 c7
        refine e_iload_n dX12_chairOf_32 rfl rfl ?_
        exact e_iret rfl trivial dX12_chairOf_33 ⟨_, rfl, h⟩
theorem w_X12_choice (l : Launch) (p1 : Int32) (p2 : Int32) (p3 : Int32) (M : o_M) (q : Int32 → o_M → Prop) (h : (mR M 60 51 = some 112 ∧ (vp_in ((10 * p1) + p3) (mN M 112) ∧ (((mI M 112 ((10 * p1) + p3).toNatClampNeg) = 0 → q (-1) M) ∧ (¬ (mI M 112 ((10 * p1) + p3).toNatClampNeg) = 0 → ((¬ ((p2 >>> (p3 &&& 31)) &&& 1) = 0 → q (-1) M) ∧ (((p2 >>> (p3 &&& 31)) &&& 1) = 0 → (mR M 60 52 = some 113 ∧ (vp_in ((1024 * (p1 + 1)) + (p2 ||| ((1 : Int32) <<< (p3 &&& 31)))) (mN M 113) ∧ q (1 + (mI M 113 ((1024 * (p1 + 1)) + (p2 ||| ((1 : Int32) <<< (p3 &&& 31)))).toNatClampNeg)) M))))))))) : K_X12_choice l [rV (some 60), iV p1, iV p2, iV p3] M q := by
  refine o_ctr (ini := false) (by decide +kernel) rfl (fun z => by cases z) (Nat.le_of_ble_eq_true rfl) ?_
  show E_X12_choice l q 0 [(0, rV (some 60)), (1, iV p1), (2, iV p2), (3, iV p3)] [] M 0 0
  refine e_aload_n dX12_choice_0 rfl rfl ?_
  obtain ⟨o1, h⟩ := h
  refine e_gA flX12_120 rfl rfl o1 dX12_choice_1 ?_
  refine e_bipush (v := 10) dX12_choice_4 (by decide) ?_
  refine e_iload_n dX12_choice_6 rfl rfl ?_
  refine e_imul dX12_choice_7 ?_
  refine e_iload_n dX12_choice_8 rfl rfl ?_
  refine e_iadd dX12_choice_9 ?_
  obtain ⟨o2, h⟩ := h
  refine e_zald rfl o2 dX12_choice_10 ?_
  refine e_if_eq (tgt := 26) dX12_choice_11 (by decide) (fun c3 => ?_) (fun c3 => ?_)
  · replace h := h.1 c3
    refine e_iconst (v := 0) dX12_choice_26 (by decide) ?_
    refine e_istore (lv' := [(4, iV 0), (0, rV (some 60)), (1, iV p1), (2, iV p2), (3, iV p3)]) (by decide) rfl dX12_choice_27 ?_
    refine e_iload rfl dX12_choice_29 ?_
    refine e_if_eq (tgt := 57) dX12_choice_31 (by decide) (fun _ => ?_) (fun c4 => absurd c4 (by decide))
    refine e_iconst (v := (-1)) dX12_choice_57 (by decide) ?_
    exact e_iret rfl trivial dX12_choice_58 ⟨_, rfl, h⟩
  · replace h := h.2 c3
    refine e_iload_n dX12_choice_14 rfl rfl ?_
    refine e_iload_n dX12_choice_15 rfl rfl ?_
    refine e_ishr dX12_choice_16 ?_
    refine e_iconst (v := 1) dX12_choice_17 (by decide) ?_
    refine e_iand dX12_choice_18 ?_
    refine e_if_ne (tgt := 26) dX12_choice_19 (by decide) (fun c5 => ?_) (fun c5 => ?_)
    · replace h := h.1 c5
      refine e_iconst (v := 0) dX12_choice_26 (by decide) ?_
      refine e_istore (lv' := [(4, iV 0), (0, rV (some 60)), (1, iV p1), (2, iV p2), (3, iV p3)]) (by decide) rfl dX12_choice_27 ?_
      refine e_iload rfl dX12_choice_29 ?_
      refine e_if_eq (tgt := 57) dX12_choice_31 (by decide) (fun _ => ?_) (fun c6 => absurd c6 (by decide))
      refine e_iconst (v := (-1)) dX12_choice_57 (by decide) ?_
      exact e_iret rfl trivial dX12_choice_58 ⟨_, rfl, h⟩
    · replace h := h.2 c5
      refine e_iconst (v := 1) dX12_choice_22 (by decide) ?_
      refine e_goto (tgt := 27) dX12_choice_23 (by decide) ?_
      refine e_istore (lv' := [(4, iV 1), (0, rV (some 60)), (1, iV p1), (2, iV p2), (3, iV p3)]) (by decide) rfl dX12_choice_27 ?_
      refine e_iload rfl dX12_choice_29 ?_
      refine e_if_eq (tgt := 57) dX12_choice_31 (by decide) (fun c7 => absurd c7 (by decide)) (fun _ => ?_)
      refine e_iconst (v := 1) dX12_choice_34 (by decide) ?_
      refine e_aload_n dX12_choice_35 rfl rfl ?_
      obtain ⟨o8, h⟩ := h
      refine e_gA flX12_123 rfl rfl o8 dX12_choice_36 ?_
      refine e_sipush (v := 1024) dX12_choice_39 (by decide) ?_
      refine e_iload_n dX12_choice_42 rfl rfl ?_
      refine e_iconst (v := 1) dX12_choice_43 (by decide) ?_
      refine e_iadd dX12_choice_44 ?_
      refine e_imul dX12_choice_45 ?_
      refine e_iload_n dX12_choice_46 rfl rfl ?_
      refine e_iconst (v := 1) dX12_choice_47 (by decide) ?_
      refine e_iload_n dX12_choice_48 rfl rfl ?_
      refine e_ishl dX12_choice_49 ?_
      refine e_ior dX12_choice_50 ?_
      refine e_iadd dX12_choice_51 ?_
      obtain ⟨o9, h⟩ := h
      refine e_iald rfl o9 dX12_choice_52 ?_
      refine e_iadd dX12_choice_53 ?_
      refine e_goto (tgt := 58) dX12_choice_54 (by decide) ?_
      exact e_iret rfl trivial dX12_choice_58 ⟨_, rfl, h⟩
theorem w_X12_done (l : Launch) (p1 : Int32) (M : o_M) (q : Int32 → o_M → Prop) (h : q p1 (sI M 60 39 0)) : K_X12_done l [rV (some 60), iV p1] M q := by
  refine o_ctr (ini := false) (by decide +kernel) rfl (fun z => by cases z) (Nat.le_of_ble_eq_true rfl) ?_
  show E_X12_done l q 0 [(0, rV (some 60)), (1, iV p1)] [] M 0 0
  refine e_aload_n dX12_done_0 rfl rfl ?_
  refine e_iconst (v := 0) dX12_done_1 (by decide) ?_
  refine e_pI flX12_357 rfl (Or.inl rfl) rfl rfl rfl dX12_done_2 ?_
  refine e_iload_n dX12_done_5 rfl rfl ?_
  exact e_iret rfl trivial dX12_done_6 ⟨_, rfl, h⟩
theorem w_X12_emit (l : Launch) (p1 : Int32) (p2 : Int32) (M : o_M) (q : o_M → Prop) (h : (mR M 60 28 = some 89 ∧ (vp_in ((300 * (mI M 60 42)) + (mI M 60 49)) (mN M 89) ∧ (mR (sI M 89 (((300 * (mI M 60 42)) + (mI M 60 49)).toNatClampNeg) p1) 60 29 = some 90 ∧ (vp_in ((300 * (mI (sI M 89 (((300 * (mI M 60 42)) + (mI M 60 49)).toNatClampNeg) p1) 60 42)) + (mI (sI M 89 (((300 * (mI M 60 42)) + (mI M 60 49)).toNatClampNeg) p1) 60 49)) (mN (sI M 89 (((300 * (mI M 60 42)) + (mI M 60 49)).toNatClampNeg) p1) 90) ∧ (∀ M5, M5 = sI (sI (sI M 89 (((300 * (mI M 60 42)) + (mI M 60 49)).toNatClampNeg) p1) 90 (((300 * (mI (sI M 89 (((300 * (mI M 60 42)) + (mI M 60 49)).toNatClampNeg) p1) 60 42)) + (mI (sI M 89 (((300 * (mI M 60 42)) + (mI M 60 49)).toNatClampNeg) p1) 60 49)).toNatClampNeg) p2) 60 49 ((mI (sI (sI M 89 (((300 * (mI M 60 42)) + (mI M 60 49)).toNatClampNeg) p1) 90 (((300 * (mI (sI M 89 (((300 * (mI M 60 42)) + (mI M 60 49)).toNatClampNeg) p1) 60 42)) + (mI (sI M 89 (((300 * (mI M 60 42)) + (mI M 60 49)).toNatClampNeg) p1) 60 49)).toNatClampNeg) p2) 60 49) + 1) → q M5)))))) : K_X12_emit l [rV (some 60), iV p1, iV p2] M q := by
  refine o_ctr (ini := false) (by decide +kernel) rfl (fun z => by cases z) (Nat.le_of_ble_eq_true rfl) ?_
  show E_X12_emit l q 0 [(0, rV (some 60)), (1, iV p1), (2, iV p2)] [] M 0 0
  refine e_aload_n dX12_emit_0 rfl rfl ?_
  obtain ⟨o1, h⟩ := h
  refine e_gA flX12_80 rfl rfl o1 dX12_emit_1 ?_
  refine e_sipush (v := 300) dX12_emit_4 (by decide) ?_
  refine e_aload_n dX12_emit_7 rfl rfl ?_
  refine e_gI flX12_203 rfl rfl dX12_emit_8 ?_
  refine e_imul dX12_emit_11 ?_
  refine e_aload_n dX12_emit_12 rfl rfl ?_
  refine e_gI flX12_249 rfl rfl dX12_emit_13 ?_
  refine e_iadd dX12_emit_16 ?_
  refine e_iload_n dX12_emit_17 rfl rfl ?_
  obtain ⟨o2, h⟩ := h
  refine e_iast rfl o2 dX12_emit_18 ?_
  refine e_aload_n dX12_emit_19 rfl rfl ?_
  obtain ⟨o3, h⟩ := h
  refine e_gA flX12_83 rfl rfl o3 dX12_emit_20 ?_
  refine e_sipush (v := 300) dX12_emit_23 (by decide) ?_
  refine e_aload_n dX12_emit_26 rfl rfl ?_
  refine e_gI flX12_203 rfl rfl dX12_emit_27 ?_
  refine e_imul dX12_emit_30 ?_
  refine e_aload_n dX12_emit_31 rfl rfl ?_
  refine e_gI flX12_249 rfl rfl dX12_emit_32 ?_
  refine e_iadd dX12_emit_35 ?_
  refine e_iload_n dX12_emit_36 rfl rfl ?_
  obtain ⟨o4, h⟩ := h
  refine e_iast rfl o4 dX12_emit_37 ?_
  refine e_aload_n dX12_emit_38 rfl rfl ?_
  refine e_dup rfl dX12_emit_39 ?_
  refine e_gI flX12_249 rfl rfl dX12_emit_40 ?_
  refine e_iconst (v := 1) dX12_emit_43 (by decide) ?_
  refine e_iadd dX12_emit_44 ?_
  refine e_pI flX12_249 rfl (Or.inl rfl) rfl rfl rfl dX12_emit_45 ?_
  generalize hgM5 : sI (sI (sI M 89 (((300 * (mI M 60 42)) + (mI M 60 49)).toNatClampNeg) p1) 90 (((300 * (mI (sI M 89 (((300 * (mI M 60 42)) + (mI M 60 49)).toNatClampNeg) p1) 60 42)) + (mI (sI M 89 (((300 * (mI M 60 42)) + (mI M 60 49)).toNatClampNeg) p1) 60 49)).toNatClampNeg) p2) 60 49 ((mI (sI (sI M 89 (((300 * (mI M 60 42)) + (mI M 60 49)).toNatClampNeg) p1) 90 (((300 * (mI (sI M 89 (((300 * (mI M 60 42)) + (mI M 60 49)).toNatClampNeg) p1) 60 42)) + (mI (sI M 89 (((300 * (mI M 60 42)) + (mI M 60 49)).toNatClampNeg) p1) 60 49)).toNatClampNeg) p2) 60 49) + 1) = M5
  replace h := h M5 hgM5.symm
  exact e_ret rfl dX12_emit_48 ⟨rfl, h⟩
theorem w_X12_in (l : Launch) (p0 : Int32) (p1 : Int32) (p2 : Int32) (M : o_M) (q : Int32 → o_M → Prop) (h : ((p0 < p1 → q 0 M) ∧ (¬ p0 < p1 → ((p2 < p0 → q 0 M) ∧ (¬ p2 < p0 → q 1 M))))) : K_X12_in l [iV p0, iV p1, iV p2] M q := by
  refine o_ctr (ini := false) (by decide +kernel) rfl (fun z => by cases z) (Nat.le_of_ble_eq_true rfl) ?_
  show E_X12_in l q 0 [(0, iV p0), (1, iV p1), (2, iV p2)] [] M 0 0
  refine e_iload_n dX12_in_0 rfl rfl ?_
  refine e_iload_n dX12_in_1 rfl rfl ?_
  refine e_ic_lt (tgt := 14) dX12_in_2 (by decide) (fun c1 => ?_) (fun c1 => ?_)
  · replace h := h.1 c1
    refine e_iconst (v := 0) dX12_in_14 (by decide) ?_
    exact e_iret rfl rb_0 dX12_in_15 ⟨_, rfl, h⟩
  · replace h := h.2 c1
    refine e_iload_n dX12_in_5 rfl rfl ?_
    refine e_iload_n dX12_in_6 rfl rfl ?_
    refine e_ic_gt (tgt := 14) dX12_in_7 (by decide) (fun c2 => ?_) (fun c2 => ?_)
    · replace h := h.1 c2
      refine e_iconst (v := 0) dX12_in_14 (by decide) ?_
      exact e_iret rfl rb_0 dX12_in_15 ⟨_, rfl, h⟩
    · replace h := h.2 c2
      refine e_iconst (v := 1) dX12_in_10 (by decide) ?_
      refine e_goto (tgt := 15) dX12_in_11 (by decide) ?_
      exact e_iret rfl rb_1 dX12_in_15 ⟨_, rfl, h⟩
theorem w_X12_isDigit (l : Launch) (p0 : Int32) (M : o_M) (q : Int32 → o_M → Prop) (h : ((p0 < 48 → q 0 M) ∧ (¬ p0 < 48 → ((57 < p0 → q 0 M) ∧ (¬ 57 < p0 → q 1 M))))) : K_X12_isDigit l [iV p0] M q := by
  refine o_ctr (ini := false) (by decide +kernel) rfl (fun z => by cases z) (Nat.le_of_ble_eq_true rfl) ?_
  show E_X12_isDigit l q 0 [(0, iV p0)] [] M 0 0
  refine e_iload_n dX12_isDigit_0 rfl rfl ?_
  refine e_bipush (v := 48) dX12_isDigit_1 (by decide) ?_
  refine e_ic_lt (tgt := 16) dX12_isDigit_3 (by decide) (fun c1 => ?_) (fun c1 => ?_)
  · replace h := h.1 c1
    refine e_iconst (v := 0) dX12_isDigit_16 (by decide) ?_
    exact e_iret rfl rb_0 dX12_isDigit_17 ⟨_, rfl, h⟩
  · replace h := h.2 c1
    refine e_iload_n dX12_isDigit_6 rfl rfl ?_
    refine e_bipush (v := 57) dX12_isDigit_7 (by decide) ?_
    refine e_ic_gt (tgt := 16) dX12_isDigit_9 (by decide) (fun c2 => ?_) (fun c2 => ?_)
    · replace h := h.1 c2
      refine e_iconst (v := 0) dX12_isDigit_16 (by decide) ?_
      exact e_iret rfl rb_0 dX12_isDigit_17 ⟨_, rfl, h⟩
    · replace h := h.2 c2
      refine e_iconst (v := 1) dX12_isDigit_12 (by decide) ?_
      refine e_goto (tgt := 17) dX12_isDigit_13 (by decide) ?_
      exact e_iret rfl rb_1 dX12_isDigit_17 ⟨_, rfl, h⟩
theorem w_X12_isLetter (l : Launch) (p0 : Int32) (M : o_M) (q : Int32 → o_M → Prop) (h : ((p0 < 97 → q 0 M) ∧ (¬ p0 < 97 → ((122 < p0 → q 0 M) ∧ (¬ 122 < p0 → q 1 M))))) : K_X12_isLetter l [iV p0] M q := by
  refine o_ctr (ini := false) (by decide +kernel) rfl (fun z => by cases z) (Nat.le_of_ble_eq_true rfl) ?_
  show E_X12_isLetter l q 0 [(0, iV p0)] [] M 0 0
  refine e_iload_n dX12_isLetter_0 rfl rfl ?_
  refine e_bipush (v := 97) dX12_isLetter_1 (by decide) ?_
  refine e_ic_lt (tgt := 16) dX12_isLetter_3 (by decide) (fun c1 => ?_) (fun c1 => ?_)
  · replace h := h.1 c1
    refine e_iconst (v := 0) dX12_isLetter_16 (by decide) ?_
    exact e_iret rfl rb_0 dX12_isLetter_17 ⟨_, rfl, h⟩
  · replace h := h.2 c1
    refine e_iload_n dX12_isLetter_6 rfl rfl ?_
    refine e_bipush (v := 122) dX12_isLetter_7 (by decide) ?_
    refine e_ic_gt (tgt := 16) dX12_isLetter_9 (by decide) (fun c2 => ?_) (fun c2 => ?_)
    · replace h := h.1 c2
      refine e_iconst (v := 0) dX12_isLetter_16 (by decide) ?_
      exact e_iret rfl rb_0 dX12_isLetter_17 ⟨_, rfl, h⟩
    · replace h := h.2 c2
      refine e_iconst (v := 1) dX12_isLetter_12 (by decide) ?_
      refine e_goto (tgt := 17) dX12_isLetter_13 (by decide) ?_
      exact e_iret rfl rb_1 dX12_isLetter_17 ⟨_, rfl, h⟩
abbrev H_X12_isOrder_12 (l : Launch) (q : Int32 → o_M → Prop) (v2 : Int32) (v4 : Int32) (v5 : Int32) (v6 : Int32) (v7 : Int32) (M : o_M) : Prop := E_X12_isOrder l q 12 [(0, rV (some 60)), (2, iV v2), (4, iV v4), (5, iV v5), (6, iV v6), (7, iV v7)] [] M 0 0
theorem w_X12_isOrder (l : Launch) (p1 : Int32) (p2 : Int32) (p3 : Int32) (M : o_M) (q : Int32 → o_M → Prop) (h : H_X12_isOrder_12 l q p2 p3 p1 0 0 M) : K_X12_isOrder l [rV (some 60), iV p1, iV p2, iV p3] M q := by
  refine o_ctr (ini := false) (by decide +kernel) rfl (fun z => by cases z) (Nat.le_of_ble_eq_true rfl) ?_
  show E_X12_isOrder l q 0 [(0, rV (some 60)), (1, iV p1), (2, iV p2), (3, iV p3)] [] M 0 0
  refine e_iload_n dX12_isOrder_0 rfl rfl ?_
  refine e_istore (lv' := [(4, iV p3), (0, rV (some 60)), (1, iV p1), (2, iV p2), (3, iV p3)]) (by decide) rfl dX12_isOrder_1 ?_
  refine e_iload_n dX12_isOrder_3 rfl rfl ?_
  refine e_istore (lv' := [(5, iV p1), (4, iV p3), (0, rV (some 60)), (1, iV p1), (2, iV p2), (3, iV p3)]) (by decide) rfl dX12_isOrder_4 ?_
  refine e_iconst (v := 0) dX12_isOrder_6 (by decide) ?_
  refine e_istore (lv' := [(6, iV 0), (5, iV p1), (4, iV p3), (0, rV (some 60)), (1, iV p1), (2, iV p2), (3, iV p3)]) (by decide) rfl dX12_isOrder_7 ?_
  refine e_iconst (v := 0) dX12_isOrder_9 (by decide) ?_
  refine e_istore (lv' := [(7, iV 0), (6, iV 0), (5, iV p1), (4, iV p3), (0, rV (some 60)), (1, iV p1), (2, iV p2), (3, iV p3)]) (by decide) rfl dX12_isOrder_10 ?_
  exact e_lv (List.forall_mem_cons.mpr ⟨rfl, List.forall_mem_cons.mpr ⟨rfl, List.forall_mem_cons.mpr ⟨rfl, List.forall_mem_cons.mpr ⟨rfl, List.forall_mem_cons.mpr ⟨rfl, List.forall_mem_cons.mpr ⟨rfl, fun _ h => absurd h List.not_mem_nil⟩⟩⟩⟩⟩⟩) h
theorem w_X12_isOrder_12 (l : Launch) (q : Int32 → o_M → Prop) (v2 : Int32) (v4 : Int32) (v5 : Int32) (v6 : Int32) (v7 : Int32) (M : o_M) (h : ((v2 ≤ v7 → ((¬ v6 = (((1 : Int32) <<< (v2 &&& 31)) - 1) → q 0 M) ∧ (v6 = (((1 : Int32) <<< (v2 &&& 31)) - 1) → q 1 M))) ∧ (¬ v2 ≤ v7 → (¬ v2 = 0 ∧ (¬ (v4 / v2) = 0 ∧ (¬ (v4 / v2) = 0 ∧ (mR M 60 54 = some 115 ∧ (mR M 60 56 = some 117 ∧ (vp_in (v5 / (v4 / v2)) (mN M 117) ∧ (vp_in v7 (mN M 115) ∧ H_X12_isOrder_12 l q v2 (v4 / v2) (v5 - v5 / (v4 / v2) * (v4 / v2)) (v6 ||| ((1 : Int32) <<< ((v5 / (v4 / v2)) &&& 31))) (v7 + 1) (sI M 115 v7.toNatClampNeg (mI M 117 (v5 / (v4 / v2)).toNatClampNeg)))))))))))) : H_X12_isOrder_12 l q v2 v4 v5 v6 v7 M := by
  refine e_iload rfl dX12_isOrder_12 ?_
  refine e_iload_n dX12_isOrder_14 rfl rfl ?_
  refine e_ic_ge (tgt := 67) dX12_isOrder_15 (by decide) (fun c1 => ?_) (fun c1 => ?_)
  · replace h := h.1 c1
    refine e_iload rfl dX12_isOrder_67 ?_
    refine e_iconst (v := 1) dX12_isOrder_69 (by decide) ?_
    refine e_iload_n dX12_isOrder_70 rfl rfl ?_
    refine e_ishl dX12_isOrder_71 ?_
    refine e_iconst (v := 1) dX12_isOrder_72 (by decide) ?_
    refine e_isub dX12_isOrder_73 ?_
    refine e_ic_ne (tgt := 81) dX12_isOrder_74 (by decide) (fun c2 => ?_) (fun c2 => ?_)
    · replace h := h.1 c2
      refine e_iconst (v := 0) dX12_isOrder_81 (by decide) ?_
      exact e_iret rfl rb_0 dX12_isOrder_82 ⟨_, rfl, h⟩
    · replace h := h.2 c2
      refine e_iconst (v := 1) dX12_isOrder_77 (by decide) ?_
      refine e_goto (tgt := 82) dX12_isOrder_78 (by decide) ?_
      exact e_iret rfl rb_1 dX12_isOrder_82 ⟨_, rfl, h⟩
  · replace h := h.2 c1
    refine e_iload rfl dX12_isOrder_18 ?_
    refine e_iload_n dX12_isOrder_20 rfl rfl ?_
    obtain ⟨o3, h⟩ := h
    refine e_idiv dX12_isOrder_21 o3 ?_
    refine e_istore (lv' := [(4, iV (v4 / v2)), (0, rV (some 60)), (2, iV v2), (5, iV v5), (6, iV v6), (7, iV v7)]) (by decide) rfl dX12_isOrder_22 ?_
    refine e_iload rfl dX12_isOrder_24 ?_
    refine e_iload rfl dX12_isOrder_26 ?_
    obtain ⟨o4, h⟩ := h
    refine e_idiv dX12_isOrder_28 o4 ?_
    refine e_istore (lv' := [(8, iV (v5 / (v4 / v2))), (4, iV (v4 / v2)), (0, rV (some 60)), (2, iV v2), (5, iV v5), (6, iV v6), (7, iV v7)]) (by decide) rfl dX12_isOrder_29 ?_
    refine e_iload rfl dX12_isOrder_31 ?_
    refine e_iload rfl dX12_isOrder_33 ?_
    obtain ⟨o5, h⟩ := h
    refine e_irem dX12_isOrder_35 o5 ?_
    refine e_istore (lv' := [(5, iV (v5 - v5 / (v4 / v2) * (v4 / v2))), (8, iV (v5 / (v4 / v2))), (4, iV (v4 / v2)), (0, rV (some 60)), (2, iV v2), (6, iV v6), (7, iV v7)]) (by decide) rfl dX12_isOrder_36 ?_
    refine e_aload_n dX12_isOrder_38 rfl rfl ?_
    obtain ⟨o6, h⟩ := h
    refine e_gA flX12_129 rfl rfl o6 dX12_isOrder_39 ?_
    refine e_iload rfl dX12_isOrder_42 ?_
    refine e_aload_n dX12_isOrder_44 rfl rfl ?_
    obtain ⟨o7, h⟩ := h
    refine e_gA flX12_135 rfl rfl o7 dX12_isOrder_45 ?_
    refine e_iload rfl dX12_isOrder_48 ?_
    obtain ⟨o8, h⟩ := h
    refine e_iald rfl o8 dX12_isOrder_50 ?_
    obtain ⟨o9, h⟩ := h
    refine e_iast rfl o9 dX12_isOrder_51 ?_
    refine e_iload rfl dX12_isOrder_52 ?_
    refine e_iconst (v := 1) dX12_isOrder_54 (by decide) ?_
    refine e_iload rfl dX12_isOrder_55 ?_
    refine e_ishl dX12_isOrder_57 ?_
    refine e_ior dX12_isOrder_58 ?_
    refine e_istore (lv' := [(6, iV (v6 ||| ((1 : Int32) <<< ((v5 / (v4 / v2)) &&& 31)))), (5, iV (v5 - v5 / (v4 / v2) * (v4 / v2))), (8, iV (v5 / (v4 / v2))), (4, iV (v4 / v2)), (0, rV (some 60)), (2, iV v2), (7, iV v7)]) (by decide) rfl dX12_isOrder_59 ?_
    refine e_iinc (v := 1) (lv' := [(7, iV (v7 + 1)), (6, iV (v6 ||| ((1 : Int32) <<< ((v5 / (v4 / v2)) &&& 31)))), (5, iV (v5 - v5 / (v4 / v2) * (v4 / v2))), (8, iV (v5 / (v4 / v2))), (4, iV (v4 / v2)), (0, rV (some 60)), (2, iV v2)]) rfl (by decide) (by decide) rfl dX12_isOrder_61 ?_
    refine e_goto (tgt := 12) dX12_isOrder_64 (by decide) ?_
    exact e_lv (List.forall_mem_cons.mpr ⟨rfl, List.forall_mem_cons.mpr ⟨rfl, List.forall_mem_cons.mpr ⟨rfl, List.forall_mem_cons.mpr ⟨rfl, List.forall_mem_cons.mpr ⟨rfl, List.forall_mem_cons.mpr ⟨rfl, fun _ h => absurd h List.not_mem_nil⟩⟩⟩⟩⟩⟩) h
theorem w_X12_isUnder (l : Launch) (p0 : Int32) (p1 : Int32) (M : o_M) (q : Int32 → o_M → Prop) (h : ((p1 = 0 → q 1 M) ∧ (¬ p1 = 0 → ((p0 = p1 → q 1 M) ∧ (¬ p0 = p1 → ((¬ p0 = 3 → ((¬ p0 = 5 → q 0 M) ∧ (p0 = 5 → ((¬ p1 = 1 → q 0 M) ∧ (p1 = 1 → q 1 M))))) ∧ (p0 = 3 → ((p1 = 2 → q 1 M) ∧ (¬ p1 = 2 → ((¬ p0 = 5 → q 0 M) ∧ (p0 = 5 → ((¬ p1 = 1 → q 0 M) ∧ (p1 = 1 → q 1 M))))))))))))) : K_X12_isUnder l [iV p0, iV p1] M q := by
  refine o_ctr (ini := false) (by decide +kernel) rfl (fun z => by cases z) (Nat.le_of_ble_eq_true rfl) ?_
  show E_X12_isUnder l q 0 [(0, iV p0), (1, iV p1)] [] M 0 0
  refine e_iload_n dX12_isUnder_0 rfl rfl ?_
  refine e_if_eq (tgt := 29) dX12_isUnder_1 (by decide) (fun c1 => ?_) (fun c1 => ?_)
  · replace h := h.1 c1
    refine e_iconst (v := 1) dX12_isUnder_29 (by decide) ?_
    refine e_goto (tgt := 34) dX12_isUnder_30 (by decide) ?_
    exact e_iret rfl rb_1 dX12_isUnder_34 ⟨_, rfl, h⟩
  · replace h := h.2 c1
    refine e_iload_n dX12_isUnder_4 rfl rfl ?_
    refine e_iload_n dX12_isUnder_5 rfl rfl ?_
    refine e_ic_eq (tgt := 29) dX12_isUnder_6 (by decide) (fun c2 => ?_) (fun c2 => ?_)
    · replace h := h.1 c2
      refine e_iconst (v := 1) dX12_isUnder_29 (by decide) ?_
      refine e_goto (tgt := 34) dX12_isUnder_30 (by decide) ?_
      exact e_iret rfl rb_1 dX12_isUnder_34 ⟨_, rfl, h⟩
    · replace h := h.2 c2
      refine e_iload_n dX12_isUnder_9 rfl rfl ?_
      refine e_iconst (v := 3) dX12_isUnder_10 (by decide) ?_
      refine e_ic_ne (tgt := 19) dX12_isUnder_11 (by decide) (fun c3 => ?_) (fun c3 => ?_)
      · replace h := h.1 c3
        refine e_iload_n dX12_isUnder_19 rfl rfl ?_
        refine e_iconst (v := 5) dX12_isUnder_20 (by decide) ?_
        refine e_ic_ne (tgt := 33) dX12_isUnder_21 (by decide) (fun c4 => ?_) (fun c4 => ?_)
        · replace h := h.1 c4
          refine e_iconst (v := 0) dX12_isUnder_33 (by decide) ?_
          exact e_iret rfl rb_0 dX12_isUnder_34 ⟨_, rfl, h⟩
        · replace h := h.2 c4
          refine e_iload_n dX12_isUnder_24 rfl rfl ?_
          refine e_iconst (v := 1) dX12_isUnder_25 (by decide) ?_
          refine e_ic_ne (tgt := 33) dX12_isUnder_26 (by decide) (fun c5 => ?_) (fun c5 => ?_)
          · replace h := h.1 c5
            refine e_iconst (v := 0) dX12_isUnder_33 (by decide) ?_
            exact e_iret rfl rb_0 dX12_isUnder_34 ⟨_, rfl, h⟩
          · replace h := h.2 c5
            refine e_iconst (v := 1) dX12_isUnder_29 (by decide) ?_
            refine e_goto (tgt := 34) dX12_isUnder_30 (by decide) ?_
            exact e_iret rfl rb_1 dX12_isUnder_34 ⟨_, rfl, h⟩
      · replace h := h.2 c3
        refine e_iload_n dX12_isUnder_14 rfl rfl ?_
        refine e_iconst (v := 2) dX12_isUnder_15 (by decide) ?_
        refine e_ic_eq (tgt := 29) dX12_isUnder_16 (by decide) (fun c6 => ?_) (fun c6 => ?_)
        · replace h := h.1 c6
          refine e_iconst (v := 1) dX12_isUnder_29 (by decide) ?_
          refine e_goto (tgt := 34) dX12_isUnder_30 (by decide) ?_
          exact e_iret rfl rb_1 dX12_isUnder_34 ⟨_, rfl, h⟩
        · replace h := h.2 c6
          refine e_iload_n dX12_isUnder_19 rfl rfl ?_
          refine e_iconst (v := 5) dX12_isUnder_20 (by decide) ?_
          refine e_ic_ne (tgt := 33) dX12_isUnder_21 (by decide) (fun c7 => ?_) (fun c7 => ?_)
          · replace h := h.1 c7
            refine e_iconst (v := 0) dX12_isUnder_33 (by decide) ?_
            exact e_iret rfl rb_0 dX12_isUnder_34 ⟨_, rfl, h⟩
          · replace h := h.2 c7
            refine e_iload_n dX12_isUnder_24 rfl rfl ?_
            refine e_iconst (v := 1) dX12_isUnder_25 (by decide) ?_
            refine e_ic_ne (tgt := 33) dX12_isUnder_26 (by decide) (fun c8 => ?_) (fun c8 => ?_)
            · replace h := h.1 c8
              refine e_iconst (v := 0) dX12_isUnder_33 (by decide) ?_
              exact e_iret rfl rb_0 dX12_isUnder_34 ⟨_, rfl, h⟩
            · replace h := h.2 c8
              refine e_iconst (v := 1) dX12_isUnder_29 (by decide) ?_
              refine e_goto (tgt := 34) dX12_isUnder_30 (by decide) ?_
              exact e_iret rfl rb_1 dX12_isUnder_34 ⟨_, rfl, h⟩
theorem w_X12_isWrong (l : Launch) (M : o_M) (q : Int32 → o_M → Prop) (h : (((mI M 60 47) = (-1) → q 0 M) ∧ (¬ (mI M 60 47) = (-1) → q 1 M))) : K_X12_isWrong l [rV (some 60)] M q := by
  refine o_ctr (ini := false) (by decide +kernel) rfl (fun z => by cases z) (Nat.le_of_ble_eq_true rfl) ?_
  show E_X12_isWrong l q 0 [(0, rV (some 60))] [] M 0 0
  refine e_aload_n dX12_isWrong_0 rfl rfl ?_
  refine e_gI flX12_233 rfl rfl dX12_isWrong_1 ?_
  refine e_iconst (v := (-1)) dX12_isWrong_4 (by decide) ?_
  refine e_ic_eq (tgt := 12) dX12_isWrong_5 (by decide) (fun c1 => ?_) (fun c1 => ?_)
  · replace h := h.1 c1
    refine e_iconst (v := 0) dX12_isWrong_12 (by decide) ?_
    exact e_iret rfl rb_0 dX12_isWrong_13 ⟨_, rfl, h⟩
  · replace h := h.2 c1
    refine e_iconst (v := 1) dX12_isWrong_8 (by decide) ?_
    refine e_goto (tgt := 13) dX12_isWrong_9 (by decide) ?_
    exact e_iret rfl rb_1 dX12_isWrong_13 ⟨_, rfl, h⟩
theorem w_X12_needOf (l : Launch) (p1 : Int32) (p2 : Int32) (M : o_M) (q : Int32 → o_M → Prop) (h : (mR M 60 3 = some 64 ∧ (vp_in p1 (mN M 64) ∧ q (((mI M 64 p1.toNatClampNeg) >>> ((2 * p2) &&& 31)) &&& 3) M))) : K_X12_needOf l [rV (some 60), iV p1, iV p2] M q := by
  refine o_ctr (ini := false) (by decide +kernel) rfl (fun z => by cases z) (Nat.le_of_ble_eq_true rfl) ?_
  show E_X12_needOf l q 0 [(0, rV (some 60)), (1, iV p1), (2, iV p2)] [] M 0 0
  refine e_aload_n dX12_needOf_0 rfl rfl ?_
  obtain ⟨o1, h⟩ := h
  refine e_gA flX12_16 rfl rfl o1 dX12_needOf_1 ?_
  refine e_iload_n dX12_needOf_4 rfl rfl ?_
  obtain ⟨o2, h⟩ := h
  refine e_iald rfl o2 dX12_needOf_5 ?_
  refine e_iconst (v := 2) dX12_needOf_6 (by decide) ?_
  refine e_iload_n dX12_needOf_7 rfl rfl ?_
  refine e_imul dX12_needOf_8 ?_
  refine e_ishr dX12_needOf_9 ?_
  refine e_iconst (v := 3) dX12_needOf_10 (by decide) ?_
  refine e_iand dX12_needOf_11 ?_
  exact e_iret rfl trivial dX12_needOf_12 ⟨_, rfl, h⟩
abbrev H_X12_priceOf_4 (l : Launch) (q : Int32 → o_M → Prop) (v1 : Int32) (v2 : Int32) (v3 : Int32) (M : o_M) : Prop := E_X12_priceOf l q 4 [(0, rV (some 60)), (1, iV v1), (2, iV v2), (3, iV v3)] [] M 0 0
theorem w_X12_priceOf (l : Launch) (p1 : Int32) (M : o_M) (q : Int32 → o_M → Prop) (h : H_X12_priceOf_4 l q p1 0 0 M) : K_X12_priceOf l [rV (some 60), iV p1] M q := by
  refine o_ctr (ini := false) (by decide +kernel) rfl (fun z => by cases z) (Nat.le_of_ble_eq_true rfl) ?_
  show E_X12_priceOf l q 0 [(0, rV (some 60)), (1, iV p1)] [] M 0 0
  refine e_iconst (v := 0) dX12_priceOf_0 (by decide) ?_
  refine e_istore_n (lv' := [(2, iV 0), (0, rV (some 60)), (1, iV p1)]) dX12_priceOf_1 rfl (by decide) rfl ?_
  refine e_iconst (v := 0) dX12_priceOf_2 (by decide) ?_
  refine e_istore_n (lv' := [(3, iV 0), (2, iV 0), (0, rV (some 60)), (1, iV p1)]) dX12_priceOf_3 rfl (by decide) rfl ?_
  exact e_lv (List.forall_mem_cons.mpr ⟨rfl, List.forall_mem_cons.mpr ⟨rfl, List.forall_mem_cons.mpr ⟨rfl, List.forall_mem_cons.mpr ⟨rfl, fun _ h => absurd h List.not_mem_nil⟩⟩⟩⟩) h
theorem w_X12_priceOf_4 (l : Launch) (q : Int32 → o_M → Prop) (v1 : Int32) (v2 : Int32) (v3 : Int32) (M : o_M) (h : (((mI M 60 0) ≤ v3 → q v2 M) ∧ (¬ (mI M 60 0) ≤ v3 → ((¬ ((v1 >>> (v3 &&& 31)) &&& 1) = 1 → H_X12_priceOf_4 l q v1 (v2 + 0) (v3 + 1) M) ∧ (((v1 >>> (v3 &&& 31)) &&& 1) = 1 → (mR M 60 2 = some 63 ∧ (vp_in v3 (mN M 63) ∧ H_X12_priceOf_4 l q v1 (v2 + (mI M 63 v3.toNatClampNeg)) (v3 + 1) M))))))) : H_X12_priceOf_4 l q v1 v2 v3 M := by
  refine e_iload_n dX12_priceOf_4 rfl rfl ?_
  refine e_aload_n dX12_priceOf_5 rfl rfl ?_
  refine e_gI flX12_152 rfl rfl dX12_priceOf_6 ?_
  refine e_ic_ge (tgt := 40) dX12_priceOf_9 (by decide) (fun c1 => ?_) (fun c1 => ?_)
  · replace h := h.1 c1
    refine e_iload_n dX12_priceOf_40 rfl rfl ?_
    exact e_iret rfl trivial dX12_priceOf_41 ⟨_, rfl, h⟩
  · replace h := h.2 c1
    refine e_iload_n dX12_priceOf_12 rfl rfl ?_
    refine e_iload_n dX12_priceOf_13 rfl rfl ?_
    refine e_iload_n dX12_priceOf_14 rfl rfl ?_
    refine e_ishr dX12_priceOf_15 ?_
    refine e_iconst (v := 1) dX12_priceOf_16 (by decide) ?_
    refine e_iand dX12_priceOf_17 ?_
    refine e_iconst (v := 1) dX12_priceOf_18 (by decide) ?_
    refine e_ic_ne (tgt := 31) dX12_priceOf_19 (by decide) (fun c2 => ?_) (fun c2 => ?_)
    · replace h := h.1 c2
      refine e_iconst (v := 0) dX12_priceOf_31 (by decide) ?_
      refine e_iadd dX12_priceOf_32 ?_
      refine e_istore_n (lv' := [(2, iV (v2 + 0)), (0, rV (some 60)), (1, iV v1), (3, iV v3)]) dX12_priceOf_33 rfl (by decide) rfl ?_
      refine e_iinc (v := 1) (lv' := [(3, iV (v3 + 1)), (2, iV (v2 + 0)), (0, rV (some 60)), (1, iV v1)]) rfl (by decide) (by decide) rfl dX12_priceOf_34 ?_
      refine e_goto (tgt := 4) dX12_priceOf_37 (by decide) ?_
      exact e_lv (List.forall_mem_cons.mpr ⟨rfl, List.forall_mem_cons.mpr ⟨rfl, List.forall_mem_cons.mpr ⟨rfl, List.forall_mem_cons.mpr ⟨rfl, fun _ h => absurd h List.not_mem_nil⟩⟩⟩⟩) h
    · replace h := h.2 c2
      refine e_aload_n dX12_priceOf_22 rfl rfl ?_
      obtain ⟨o3, h⟩ := h
      refine e_gA flX12_13 rfl rfl o3 dX12_priceOf_23 ?_
      refine e_iload_n dX12_priceOf_26 rfl rfl ?_
      obtain ⟨o4, h⟩ := h
      refine e_iald rfl o4 dX12_priceOf_27 ?_
      refine e_goto (tgt := 32) dX12_priceOf_28 (by decide) ?_
      refine e_iadd dX12_priceOf_32 ?_
      refine e_istore_n (lv' := [(2, iV (v2 + (mI M 63 v3.toNatClampNeg))), (0, rV (some 60)), (1, iV v1), (3, iV v3)]) dX12_priceOf_33 rfl (by decide) rfl ?_
      refine e_iinc (v := 1) (lv' := [(3, iV (v3 + 1)), (2, iV (v2 + (mI M 63 v3.toNatClampNeg))), (0, rV (some 60)), (1, iV v1)]) rfl (by decide) (by decide) rfl dX12_priceOf_34 ?_
      refine e_goto (tgt := 4) dX12_priceOf_37 (by decide) ?_
      exact e_lv (List.forall_mem_cons.mpr ⟨rfl, List.forall_mem_cons.mpr ⟨rfl, List.forall_mem_cons.mpr ⟨rfl, List.forall_mem_cons.mpr ⟨rfl, fun _ h => absurd h List.not_mem_nil⟩⟩⟩⟩) h
theorem w_X12_refuse (l : Launch) (p1 : Int32) (M : o_M) (q : Int32 → o_M → Prop) (h : q (-1) (sI M 60 39 p1)) : K_X12_refuse l [rV (some 60), iV p1] M q := by
  refine o_ctr (ini := false) (by decide +kernel) rfl (fun z => by cases z) (Nat.le_of_ble_eq_true rfl) ?_
  show E_X12_refuse l q 0 [(0, rV (some 60)), (1, iV p1)] [] M 0 0
  refine e_aload_n dX12_refuse_0 rfl rfl ?_
  refine e_iload_n dX12_refuse_1 rfl rfl ?_
  refine e_pI flX12_357 rfl (Or.inl rfl) rfl rfl rfl dX12_refuse_2 ?_
  refine e_iconst (v := (-1)) dX12_refuse_5 (by decide) ?_
  exact e_iret rfl trivial dX12_refuse_6 ⟨_, rfl, h⟩
theorem w_X12_status (l : Launch) (M : o_M) (q : Int32 → o_M → Prop) (h : q (mI M 60 39) M) : K_X12_status l [rV (some 60)] M q := by
  refine o_ctr (ini := false) (by decide +kernel) rfl (fun z => by cases z) (Nat.le_of_ble_eq_true rfl) ?_
  show E_X12_status l q 0 [(0, rV (some 60))] [] M 0 0
  refine e_aload_n dX12_status_0 rfl rfl ?_
  refine e_gI flX12_357 rfl rfl dX12_status_1 ?_
  exact e_iret rfl trivial dX12_status_4 ⟨_, rfl, h⟩
abbrev H_X12_textOn_7 (l : Launch) (q : Int32 → o_M → Prop) (v1 : Int32) (v2 : Int32) (v3 : Int32) (v4 : Int32) (M : o_M) : Prop := E_X12_textOn l q 7 [(0, rV (some 60)), (1, iV v1), (2, iV v2), (3, iV v3), (4, iV v4)] [] M 0 0
theorem w_X12_textOn (l : Launch) (p1 : Int32) (M : o_M) (q : Int32 → o_M → Prop) (h : H_X12_textOn_7 l q p1 0 (-1) 0 M) : K_X12_textOn l [rV (some 60), iV p1] M q := by
  refine o_ctr (ini := false) (by decide +kernel) rfl (fun z => by cases z) (Nat.le_of_ble_eq_true rfl) ?_
  show E_X12_textOn l q 0 [(0, rV (some 60)), (1, iV p1)] [] M 0 0
  refine e_iconst (v := 0) dX12_textOn_0 (by decide) ?_
  refine e_istore_n (lv' := [(2, iV 0), (0, rV (some 60)), (1, iV p1)]) dX12_textOn_1 rfl (by decide) rfl ?_
  refine e_iconst (v := (-1)) dX12_textOn_2 (by decide) ?_
  refine e_istore_n (lv' := [(3, iV (-1)), (2, iV 0), (0, rV (some 60)), (1, iV p1)]) dX12_textOn_3 rfl (by decide) rfl ?_
  refine e_iconst (v := 0) dX12_textOn_4 (by decide) ?_
  refine e_istore (lv' := [(4, iV 0), (3, iV (-1)), (2, iV 0), (0, rV (some 60)), (1, iV p1)]) (by decide) rfl dX12_textOn_5 ?_
  exact e_lv (List.forall_mem_cons.mpr ⟨rfl, List.forall_mem_cons.mpr ⟨rfl, List.forall_mem_cons.mpr ⟨rfl, List.forall_mem_cons.mpr ⟨rfl, List.forall_mem_cons.mpr ⟨rfl, fun _ h => absurd h List.not_mem_nil⟩⟩⟩⟩⟩) h
theorem w_X12_textOn_7 (l : Launch) (q : Int32 → o_M → Prop) (v1 : Int32) (v2 : Int32) (v3 : Int32) (v4 : Int32) (M : o_M) (h : (((mI M 60 25) ≤ v4 → q v2 M) ∧ (¬ (mI M 60 25) ≤ v4 → (mR M 60 32 = some 93 ∧ (vp_in v4 (mN M 93) ∧ (((mI M 93 v4.toNatClampNeg) = (-1) → H_X12_textOn_7 l q v1 v2 v3 (v4 + 1) M) ∧ (¬ (mI M 93 v4.toNatClampNeg) = (-1) → (mR M 60 32 = some 93 ∧ (vp_in v4 (mN M 93) ∧ ((v1 < (mI M 93 v4.toNatClampNeg) → H_X12_textOn_7 l q v1 v2 v3 (v4 + 1) M) ∧ (¬ v1 < (mI M 93 v4.toNatClampNeg) → (mR M 60 33 = some 94 ∧ (vp_in v4 (mN M 94) ∧ (((mI M 94 v4.toNatClampNeg) ≤ v3 → H_X12_textOn_7 l q v1 v2 v3 (v4 + 1) M) ∧ (¬ (mI M 94 v4.toNatClampNeg) ≤ v3 → (mR M 60 33 = some 94 ∧ (vp_in v4 (mN M 94) ∧ H_X12_textOn_7 l q v1 v4 (mI M 94 v4.toNatClampNeg) (v4 + 1) M))))))))))))))))) : H_X12_textOn_7 l q v1 v2 v3 v4 M := by
  refine e_iload rfl dX12_textOn_7 ?_
  refine e_aload_n dX12_textOn_9 rfl rfl ?_
  refine e_gI flX12_145 rfl rfl dX12_textOn_10 ?_
  refine e_ic_ge (tgt := 66) dX12_textOn_13 (by decide) (fun c1 => ?_) (fun c1 => ?_)
  · replace h := h.1 c1
    refine e_iload_n dX12_textOn_66 rfl rfl ?_
    exact e_iret rfl trivial dX12_textOn_67 ⟨_, rfl, h⟩
  · replace h := h.2 c1
    refine e_aload_n dX12_textOn_16 rfl rfl ?_
    obtain ⟨o2, h⟩ := h
    refine e_gA flX12_92 rfl rfl o2 dX12_textOn_17 ?_
    refine e_iload rfl dX12_textOn_20 ?_
    obtain ⟨o3, h⟩ := h
    refine e_iald rfl o3 dX12_textOn_22 ?_
    refine e_iconst (v := (-1)) dX12_textOn_23 (by decide) ?_
    refine e_ic_eq (tgt := 60) dX12_textOn_24 (by decide) (fun c4 => ?_) (fun c4 => ?_)
    · replace h := h.1 c4
      refine e_iinc (v := 1) (lv' := [(4, iV (v4 + 1)), (0, rV (some 60)), (1, iV v1), (2, iV v2), (3, iV v3)]) rfl (by decide) (by decide) rfl dX12_textOn_60 ?_
      refine e_goto (tgt := 7) dX12_textOn_63 (by decide) ?_
      exact e_lv (List.forall_mem_cons.mpr ⟨rfl, List.forall_mem_cons.mpr ⟨rfl, List.forall_mem_cons.mpr ⟨rfl, List.forall_mem_cons.mpr ⟨rfl, List.forall_mem_cons.mpr ⟨rfl, fun _ h => absurd h List.not_mem_nil⟩⟩⟩⟩⟩) h
    · replace h := h.2 c4
      refine e_aload_n dX12_textOn_27 rfl rfl ?_
      obtain ⟨o5, h⟩ := h
      refine e_gA flX12_92 rfl rfl o5 dX12_textOn_28 ?_
      refine e_iload rfl dX12_textOn_31 ?_
      obtain ⟨o6, h⟩ := h
      refine e_iald rfl o6 dX12_textOn_33 ?_
      refine e_iload_n dX12_textOn_34 rfl rfl ?_
      refine e_ic_gt (tgt := 60) dX12_textOn_35 (by decide) (fun c7 => ?_) (fun c7 => ?_)
      · replace h := h.1 c7
        refine e_iinc (v := 1) (lv' := [(4, iV (v4 + 1)), (0, rV (some 60)), (1, iV v1), (2, iV v2), (3, iV v3)]) rfl (by decide) (by decide) rfl dX12_textOn_60 ?_
        refine e_goto (tgt := 7) dX12_textOn_63 (by decide) ?_
        exact e_lv (List.forall_mem_cons.mpr ⟨rfl, List.forall_mem_cons.mpr ⟨rfl, List.forall_mem_cons.mpr ⟨rfl, List.forall_mem_cons.mpr ⟨rfl, List.forall_mem_cons.mpr ⟨rfl, fun _ h => absurd h List.not_mem_nil⟩⟩⟩⟩⟩) h
      · replace h := h.2 c7
        refine e_aload_n dX12_textOn_38 rfl rfl ?_
        obtain ⟨o8, h⟩ := h
        refine e_gA flX12_95 rfl rfl o8 dX12_textOn_39 ?_
        refine e_iload rfl dX12_textOn_42 ?_
        obtain ⟨o9, h⟩ := h
        refine e_iald rfl o9 dX12_textOn_44 ?_
        refine e_iload_n dX12_textOn_45 rfl rfl ?_
        refine e_ic_le (tgt := 60) dX12_textOn_46 (by decide) (fun c10 => ?_) (fun c10 => ?_)
        · replace h := h.1 c10
          refine e_iinc (v := 1) (lv' := [(4, iV (v4 + 1)), (0, rV (some 60)), (1, iV v1), (2, iV v2), (3, iV v3)]) rfl (by decide) (by decide) rfl dX12_textOn_60 ?_
          refine e_goto (tgt := 7) dX12_textOn_63 (by decide) ?_
          exact e_lv (List.forall_mem_cons.mpr ⟨rfl, List.forall_mem_cons.mpr ⟨rfl, List.forall_mem_cons.mpr ⟨rfl, List.forall_mem_cons.mpr ⟨rfl, List.forall_mem_cons.mpr ⟨rfl, fun _ h => absurd h List.not_mem_nil⟩⟩⟩⟩⟩) h
        · replace h := h.2 c10
          refine e_iload rfl dX12_textOn_49 ?_
          refine e_istore_n (lv' := [(2, iV v4), (0, rV (some 60)), (1, iV v1), (3, iV v3), (4, iV v4)]) dX12_textOn_51 rfl (by decide) rfl ?_
          refine e_aload_n dX12_textOn_52 rfl rfl ?_
          obtain ⟨o11, h⟩ := h
          refine e_gA flX12_95 rfl rfl o11 dX12_textOn_53 ?_
          refine e_iload rfl dX12_textOn_56 ?_
          obtain ⟨o12, h⟩ := h
          refine e_iald rfl o12 dX12_textOn_58 ?_
          refine e_istore_n (lv' := [(3, iV (mI M 94 v4.toNatClampNeg)), (2, iV v4), (0, rV (some 60)), (1, iV v1), (4, iV v4)]) dX12_textOn_59 rfl (by decide) rfl ?_
          refine e_iinc (v := 1) (lv' := [(4, iV (v4 + 1)), (3, iV (mI M 94 v4.toNatClampNeg)), (2, iV v4), (0, rV (some 60)), (1, iV v1)]) rfl (by decide) (by decide) rfl dX12_textOn_60 ?_
          refine e_goto (tgt := 7) dX12_textOn_63 (by decide) ?_
          exact e_lv (List.forall_mem_cons.mpr ⟨rfl, List.forall_mem_cons.mpr ⟨rfl, List.forall_mem_cons.mpr ⟨rfl, List.forall_mem_cons.mpr ⟨rfl, List.forall_mem_cons.mpr ⟨rfl, fun _ h => absurd h List.not_mem_nil⟩⟩⟩⟩⟩) h
theorem w_X12_two (l : Launch) (p0 : Int32) (p1 : Int64) (p2 : Int64) (M : o_M) (q : Int64 → o_M → Prop) (h : (((p0 < 2 ∨ 8 < p0) → q (p1 * p2) M) ∧ (p0 = 2 → ((¬ (lg_cmp p1 0) = 0 → q 1 M) ∧ ((lg_cmp p1 0) = 0 → (((lg_cmp p2 0) = 0 → q 0 M) ∧ (¬ (lg_cmp p2 0) = 0 → q 1 M))))) ∧ (p0 = 3 → (((lg_cmp p1 0) = 0 → q 0 M) ∧ (¬ (lg_cmp p1 0) = 0 → (((lg_cmp p2 0) = 0 → q 0 M) ∧ (¬ (lg_cmp p2 0) = 0 → q 1 M))))) ∧ (p0 = 4 → q (p1 * p2) M) ∧ (p0 = 5 → ((0 ≤ (lg_cmp p1 p2) → q 0 M) ∧ (¬ 0 ≤ (lg_cmp p1 p2) → q 1 M))) ∧ (p0 = 6 → ((¬ (lg_cmp p1 p2) = 0 → q 0 M) ∧ ((lg_cmp p1 p2) = 0 → q 1 M))) ∧ (p0 = 7 → q (p1 + p2) M) ∧ (p0 = 8 → q (p1 - p2) M))) : K_X12_two l [iV p0, jV p1, jV p2] M q := by
  refine o_ctr (ini := false) (by decide +kernel) rfl (fun z => by cases z) (Nat.le_of_ble_eq_true rfl) ?_
  show E_X12_two l q 0 [(0, iV p0), (1, jV p1), (3, jV p2)] [] M 0 0
  refine e_iload_n dX12_two_0 rfl rfl ?_
  rcases o_tab p0 2 8 (a := 2) (b := 8) (by decide) (by decide) with c1 | c1
  · replace h := h.1 c1
    refine e_tabOut (tgt := 112) dX12_two_1 (o_tabo (by decide) (by decide) c1) (by decide) ?_
    refine e_lload_n dX12_two_112 rfl rfl ?_
    refine e_lload_n dX12_two_113 rfl rfl ?_
    refine e_lmul dX12_two_114 ?_
    exact e_lret rfl trivial dX12_two_115 ⟨_, rfl, h⟩
  · have h0 := h.2
    have e1 : p0.toInt = 2 ∨ p0.toInt = 3 ∨ p0.toInt = 4 ∨ p0.toInt = 5 ∨ p0.toInt = 6 ∨ p0.toInt = 7 ∨ p0.toInt = 8 := by omega
    clear h; rcases e1 with e1 | e1 | e1 | e1 | e1 | e1 | e1
    · have h := h0.1 (Int32.toInt_inj.mp e1)
      refine e_tabIn (tgt := 44) (off := 43) dX12_two_1 (by rw [e1]; decide) (by rw [e1]; decide) (by rw [e1]; rfl) (by decide) ?_
      refine e_lload_n dX12_two_44 rfl rfl ?_
      refine e_lconst (v := 0) dX12_two_45 (by decide) ?_
      refine e_lcmp dX12_two_46 ?_
      refine e_if_ne (tgt := 56) dX12_two_47 (by decide) (fun c2 => ?_) (fun c2 => ?_)
      · replace h := h.1 c2
        refine e_lconst (v := 1) dX12_two_56 (by decide) ?_
        refine e_goto (tgt := 61) dX12_two_57 (by decide) ?_
        exact e_lret rfl trivial dX12_two_61 ⟨_, rfl, h⟩
      · replace h := h.2 c2
        refine e_lload_n dX12_two_50 rfl rfl ?_
        refine e_lconst (v := 0) dX12_two_51 (by decide) ?_
        refine e_lcmp dX12_two_52 ?_
        refine e_if_eq (tgt := 60) dX12_two_53 (by decide) (fun c3 => ?_) (fun c3 => ?_)
        · replace h := h.1 c3
          refine e_lconst (v := 0) dX12_two_60 (by decide) ?_
          exact e_lret rfl trivial dX12_two_61 ⟨_, rfl, h⟩
        · replace h := h.2 c3
          refine e_lconst (v := 1) dX12_two_56 (by decide) ?_
          refine e_goto (tgt := 61) dX12_two_57 (by decide) ?_
          exact e_lret rfl trivial dX12_two_61 ⟨_, rfl, h⟩
    · have h := h0.2.1 (Int32.toInt_inj.mp e1)
      refine e_tabIn (tgt := 62) (off := 61) dX12_two_1 (by rw [e1]; decide) (by rw [e1]; decide) (by rw [e1]; rfl) (by decide) ?_
      refine e_lload_n dX12_two_62 rfl rfl ?_
      refine e_lconst (v := 0) dX12_two_63 (by decide) ?_
      refine e_lcmp dX12_two_64 ?_
      refine e_if_eq (tgt := 78) dX12_two_65 (by decide) (fun c4 => ?_) (fun c4 => ?_)
      · replace h := h.1 c4
        refine e_lconst (v := 0) dX12_two_78 (by decide) ?_
        exact e_lret rfl trivial dX12_two_79 ⟨_, rfl, h⟩
      · replace h := h.2 c4
        refine e_lload_n dX12_two_68 rfl rfl ?_
        refine e_lconst (v := 0) dX12_two_69 (by decide) ?_
        refine e_lcmp dX12_two_70 ?_
        refine e_if_eq (tgt := 78) dX12_two_71 (by decide) (fun c5 => ?_) (fun c5 => ?_)
        · replace h := h.1 c5
          refine e_lconst (v := 0) dX12_two_78 (by decide) ?_
          exact e_lret rfl trivial dX12_two_79 ⟨_, rfl, h⟩
        · replace h := h.2 c5
          refine e_lconst (v := 1) dX12_two_74 (by decide) ?_
          refine e_goto (tgt := 79) dX12_two_75 (by decide) ?_
          exact e_lret rfl trivial dX12_two_79 ⟨_, rfl, h⟩
    · have h := h0.2.2.1 (Int32.toInt_inj.mp e1)
      refine e_tabIn (tgt := 112) (off := 111) dX12_two_1 (by rw [e1]; decide) (by rw [e1]; decide) (by rw [e1]; rfl) (by decide) ?_
      refine e_lload_n dX12_two_112 rfl rfl ?_
      refine e_lload_n dX12_two_113 rfl rfl ?_
      refine e_lmul dX12_two_114 ?_
      exact e_lret rfl trivial dX12_two_115 ⟨_, rfl, h⟩
    · have h := h0.2.2.2.1 (Int32.toInt_inj.mp e1)
      refine e_tabIn (tgt := 80) (off := 79) dX12_two_1 (by rw [e1]; decide) (by rw [e1]; decide) (by rw [e1]; rfl) (by decide) ?_
      refine e_lload_n dX12_two_80 rfl rfl ?_
      refine e_lload_n dX12_two_81 rfl rfl ?_
      refine e_lcmp dX12_two_82 ?_
      refine e_if_ge (tgt := 90) dX12_two_83 (by decide) (fun c6 => ?_) (fun c6 => ?_)
      · replace h := h.1 c6
        refine e_lconst (v := 0) dX12_two_90 (by decide) ?_
        exact e_lret rfl trivial dX12_two_91 ⟨_, rfl, h⟩
      · replace h := h.2 c6
        refine e_lconst (v := 1) dX12_two_86 (by decide) ?_
        refine e_goto (tgt := 91) dX12_two_87 (by decide) ?_
        exact e_lret rfl trivial dX12_two_91 ⟨_, rfl, h⟩
    · have h := h0.2.2.2.2.1 (Int32.toInt_inj.mp e1)
      refine e_tabIn (tgt := 92) (off := 91) dX12_two_1 (by rw [e1]; decide) (by rw [e1]; decide) (by rw [e1]; rfl) (by decide) ?_
      refine e_lload_n dX12_two_92 rfl rfl ?_
      refine e_lload_n dX12_two_93 rfl rfl ?_
      refine e_lcmp dX12_two_94 ?_
      refine e_if_ne (tgt := 102) dX12_two_95 (by decide) (fun c7 => ?_) (fun c7 => ?_)
      · replace h := h.1 c7
        refine e_lconst (v := 0) dX12_two_102 (by decide) ?_
        exact e_lret rfl trivial dX12_two_103 ⟨_, rfl, h⟩
      · replace h := h.2 c7
        refine e_lconst (v := 1) dX12_two_98 (by decide) ?_
        refine e_goto (tgt := 103) dX12_two_99 (by decide) ?_
        exact e_lret rfl trivial dX12_two_103 ⟨_, rfl, h⟩
    · have h := h0.2.2.2.2.2.1 (Int32.toInt_inj.mp e1)
      refine e_tabIn (tgt := 104) (off := 103) dX12_two_1 (by rw [e1]; decide) (by rw [e1]; decide) (by rw [e1]; rfl) (by decide) ?_
      refine e_lload_n dX12_two_104 rfl rfl ?_
      refine e_lload_n dX12_two_105 rfl rfl ?_
      refine e_ladd dX12_two_106 ?_
      exact e_lret rfl trivial dX12_two_107 ⟨_, rfl, h⟩
    · have h := h0.2.2.2.2.2.2 (Int32.toInt_inj.mp e1)
      refine e_tabIn (tgt := 108) (off := 107) dX12_two_1 (by rw [e1]; decide) (by rw [e1]; decide) (by rw [e1]; rfl) (by decide) ?_
      refine e_lload_n dX12_two_108 rfl rfl ?_
      refine e_lload_n dX12_two_109 rfl rfl ?_
      refine e_lsub dX12_two_110 ?_
      exact e_lret rfl trivial dX12_two_111 ⟨_, rfl, h⟩
theorem w_X12_asRow (l : Launch) (p1 : Int32) (p2 : Int32) (p3 : Int32) (M : o_M) (q : Int32 → o_M → Prop) (h : (mR M 60 35 = some 96 ∧ (vp_in p1 (mN M 96) ∧ ((¬ (mI M 96 p1.toNatClampNeg) = 0 → (mR M 60 35 = some 96 ∧ (vp_in p1 (mN M 96) ∧ (((mI M 96 p1.toNatClampNeg) = p2 → (mR M 60 37 = some 98 ∧ (vp_in p1 (mN M 98) ∧ K_X12_in l [iV p3, iV 0, iV ((mI M 98 p1.toNatClampNeg) - 1)] M (fun r10 M9 => ((r10 = 0 → K_X12_refuse l [rV (some 60), iV 12] M9 (fun r13 M12 => q r13 M12)) ∧ (¬ r10 = 0 → (mR M9 60 38 = some 99 ∧ (vp_in ((300 * p1) + p3) (mN M9 99) ∧ K_X12_done l [rV (some 60), iV ((mJ M9 99 ((300 * p1) + p3).toNatClampNeg).toInt32)] M9 (fun r17 M16 => q r17 M16))))))))) ∧ (¬ (mI M 96 p1.toNatClampNeg) = p2 → K_X12_refuse l [rV (some 60), iV 11] M (fun r19 M18 => q r19 M18)))))) ∧ ((mI M 96 p1.toNatClampNeg) = 0 → K_X12_refuse l [rV (some 60), iV 10] M (fun r21 M20 => q r21 M20)))))) : K_X12_asRow l [rV (some 60), iV p1, iV p2, iV p3] M q := by
  refine o_ctr (ini := false) (by decide +kernel) rfl (fun z => by cases z) (Nat.le_of_ble_eq_true rfl) ?_
  show E_X12_asRow l q 0 [(0, rV (some 60)), (1, iV p1), (2, iV p2), (3, iV p3)] [] M 0 0
  refine e_aload_n dX12_asRow_0 rfl rfl ?_
  obtain ⟨o1, h⟩ := h
  refine e_gA flX12_98 rfl rfl o1 dX12_asRow_1 ?_
  refine e_iload_n dX12_asRow_4 rfl rfl ?_
  obtain ⟨o2, h⟩ := h
  refine e_iald rfl o2 dX12_asRow_5 ?_
  refine e_if_ne (tgt := 16) dX12_asRow_6 (by decide) (fun c3 => ?_) (fun c3 => ?_)
  · replace h := h.1 c3
    refine e_aload_n dX12_asRow_16 rfl rfl ?_
    obtain ⟨o4, h⟩ := h
    refine e_gA flX12_98 rfl rfl o4 dX12_asRow_17 ?_
    refine e_iload_n dX12_asRow_20 rfl rfl ?_
    obtain ⟨o5, h⟩ := h
    refine e_iald rfl o5 dX12_asRow_21 ?_
    refine e_iload_n dX12_asRow_22 rfl rfl ?_
    refine e_ic_eq (tgt := 33) dX12_asRow_23 (by decide) (fun c6 => ?_) (fun c6 => ?_)
    · replace h := h.1 c6
      refine e_iload_n dX12_asRow_33 rfl rfl ?_
      refine e_iconst (v := 0) dX12_asRow_34 (by decide) ?_
      refine e_aload_n dX12_asRow_35 rfl rfl ?_
      obtain ⟨o7, h⟩ := h
      refine e_gA flX12_104 rfl rfl o7 dX12_asRow_36 ?_
      refine e_iload_n dX12_asRow_39 rfl rfl ?_
      obtain ⟨o8, h⟩ := h
      refine e_iald rfl o8 dX12_asRow_40 ?_
      refine e_iconst (v := 1) dX12_asRow_41 (by decide) ?_
      refine e_isub dX12_asRow_42 ?_
      refine e_callS (As := [iV p3, iV 0, iV ((mI M 98 p1.toNatClampNeg) - 1)]) (st := []) mt_X12_in is_X12_in lkX12_155 ⟨by decide, by decide⟩ (Nat.le_of_ble_eq_true rfl) ⟨by decide, by decide⟩ rfl rfl dX12_asRow_43 (Ctr.mono h (fun v M9 h => ?_))
      obtain ⟨r10, rfl, h⟩ := h
      show E_X12_asRow l q 46 [(0, rV (some 60)), (1, iV p1), (2, iV p2), (3, iV p3)] [iV r10] M9 0 0
      refine e_if_eq (tgt := 69) dX12_asRow_46 (by decide) (fun c11 => ?_) (fun c11 => ?_)
      · replace h := h.1 c11
        refine e_aload_n dX12_asRow_69 rfl rfl ?_
        refine e_bipush (v := 12) dX12_asRow_70 (by decide) ?_
        refine e_callV (As := [iV 12]) (st := []) mt_X12_refuse in_X12_refuse lkX12_360 rfl rfl ⟨by decide, by decide⟩ (Nat.le_of_ble_eq_true rfl) ⟨by decide, by decide⟩ rfl rfl dX12_asRow_72 (Ctr.mono h (fun v M12 h => ?_))
        obtain ⟨r13, rfl, h⟩ := h
        show E_X12_asRow l q 75 [(0, rV (some 60)), (1, iV p1), (2, iV p2), (3, iV p3)] [iV r13] M12 0 0
        exact e_iret rfl trivial dX12_asRow_75 ⟨_, rfl, h⟩
      · replace h := h.2 c11
        refine e_aload_n dX12_asRow_49 rfl rfl ?_
        refine e_aload_n dX12_asRow_50 rfl rfl ?_
        obtain ⟨o14, h⟩ := h
        refine e_gA flX12_107 rfl rfl o14 dX12_asRow_51 ?_
        refine e_sipush (v := 300) dX12_asRow_54 (by decide) ?_
        refine e_iload_n dX12_asRow_57 rfl rfl ?_
        refine e_imul dX12_asRow_58 ?_
        refine e_iload_n dX12_asRow_59 rfl rfl ?_
        refine e_iadd dX12_asRow_60 ?_
        obtain ⟨o15, h⟩ := h
        refine e_lald rfl o15 dX12_asRow_61 ?_
        refine e_l2i dX12_asRow_62 ?_
        refine e_callV (As := [iV ((mJ M9 99 ((300 * p1) + p3).toNatClampNeg).toInt32)]) (st := []) mt_X12_done in_X12_done lkX12_363 rfl rfl ⟨by decide, by decide⟩ (Nat.le_of_ble_eq_true rfl) ⟨by decide, by decide⟩ rfl rfl dX12_asRow_63 (Ctr.mono h (fun v M16 h => ?_))
        obtain ⟨r17, rfl, h⟩ := h
        show E_X12_asRow l q 66 [(0, rV (some 60)), (1, iV p1), (2, iV p2), (3, iV p3)] [iV r17] M16 0 0
        refine e_goto (tgt := 75) dX12_asRow_66 (by decide) ?_
        exact e_iret rfl trivial dX12_asRow_75 ⟨_, rfl, h⟩
    · replace h := h.2 c6
      refine e_aload_n dX12_asRow_26 rfl rfl ?_
      refine e_bipush (v := 11) dX12_asRow_27 (by decide) ?_
      refine e_callV (As := [iV 11]) (st := []) mt_X12_refuse in_X12_refuse lkX12_360 rfl rfl ⟨by decide, by decide⟩ (Nat.le_of_ble_eq_true rfl) ⟨by decide, by decide⟩ rfl rfl dX12_asRow_29 (Ctr.mono h (fun v M18 h => ?_))
      obtain ⟨r19, rfl, h⟩ := h
      show E_X12_asRow l q 32 [(0, rV (some 60)), (1, iV p1), (2, iV p2), (3, iV p3)] [iV r19] M18 0 0
      exact e_iret rfl trivial dX12_asRow_32 ⟨_, rfl, h⟩
  · replace h := h.2 c3
    refine e_aload_n dX12_asRow_9 rfl rfl ?_
    refine e_bipush (v := 10) dX12_asRow_10 (by decide) ?_
    refine e_callV (As := [iV 10]) (st := []) mt_X12_refuse in_X12_refuse lkX12_360 rfl rfl ⟨by decide, by decide⟩ (Nat.le_of_ble_eq_true rfl) ⟨by decide, by decide⟩ rfl rfl dX12_asRow_12 (Ctr.mono h (fun v M20 h => ?_))
    obtain ⟨r21, rfl, h⟩ := h
    show E_X12_asRow l q 15 [(0, rV (some 60)), (1, iV p1), (2, iV p2), (3, iV p3)] [iV r21] M20 0 0
    exact e_iret rfl trivial dX12_asRow_15 ⟨_, rfl, h⟩
theorem w_X12_asService (l : Launch) (p1 : Int32) (p2 : Int32) (p3 : Int32) (M : o_M) (q : Int32 → o_M → Prop) (h : (mR M 60 35 = some 96 ∧ (vp_in p1 (mN M 96) ∧ (((mI M 96 p1.toNatClampNeg) = 0 → ((¬ (mI M 96 p1.toNatClampNeg) = 0 → (mR M 60 16 = some 77 ∧ (mR M 60 36 = some 97 ∧ (vp_in p1 (mN M 97) ∧ (vp_in (mI M 97 p1.toNatClampNeg) (mN M 77) ∧ K_X12_done l [rV (some 60), iV (mI M 77 (mI M 97 p1.toNatClampNeg).toNatClampNeg)] M (fun r10 M9 => q r10 M9)))))) ∧ ((mI M 96 p1.toNatClampNeg) = 0 → ((¬ p3 = 11 → K_X12_done l [rV (some 60), iV 0] M (fun r13 M12 => q r13 M12)) ∧ (p3 = 11 → K_X12_refuse l [rV (some 60), iV 10] M (fun r15 M14 => q r15 M14)))))) ∧ (¬ (mI M 96 p1.toNatClampNeg) = 0 → ((¬ (mI M 96 p1.toNatClampNeg) = 1 → K_X12_refuse l [rV (some 60), iV p3] M (fun r18 M17 => q r18 M17)) ∧ ((mI M 96 p1.toNatClampNeg) = 1 → (mR M 60 15 = some 76 ∧ (mR M 60 36 = some 97 ∧ (vp_in p1 (mN M 97) ∧ (vp_in (mI M 97 p1.toNatClampNeg) (mN M 76) ∧ K_X12_isUnder l [iV (mI M 76 (mI M 97 p1.toNatClampNeg).toNatClampNeg), iV p2] M (fun r24 M23 => ((¬ r24 = 0 → ((¬ (mI M 96 p1.toNatClampNeg) = 0 → (mR M23 60 16 = some 77 ∧ (mR M23 60 36 = some 97 ∧ (vp_in p1 (mN M23 97) ∧ (vp_in (mI M23 97 p1.toNatClampNeg) (mN M23 77) ∧ K_X12_done l [rV (some 60), iV (mI M23 77 (mI M23 97 p1.toNatClampNeg).toNatClampNeg)] M23 (fun r32 M31 => q r32 M31)))))) ∧ ((mI M 96 p1.toNatClampNeg) = 0 → ((¬ p3 = 11 → K_X12_done l [rV (some 60), iV 0] M23 (fun r35 M34 => q r35 M34)) ∧ (p3 = 11 → K_X12_refuse l [rV (some 60), iV 10] M23 (fun r37 M36 => q r37 M36)))))) ∧ (r24 = 0 → K_X12_refuse l [rV (some 60), iV p3] M23 (fun r39 M38 => q r39 M38))))))))))))))) : K_X12_asService l [rV (some 60), iV p1, iV p2, iV p3] M q := by
  refine o_ctr (ini := false) (by decide +kernel) rfl (fun z => by cases z) (Nat.le_of_ble_eq_true rfl) ?_
  show E_X12_asService l q 0 [(0, rV (some 60)), (1, iV p1), (2, iV p2), (3, iV p3)] [] M 0 0
  refine e_aload_n dX12_asService_0 rfl rfl ?_
  obtain ⟨o1, h⟩ := h
  refine e_gA flX12_98 rfl rfl o1 dX12_asService_1 ?_
  refine e_iload_n dX12_asService_4 rfl rfl ?_
  obtain ⟨o2, h⟩ := h
  refine e_iald rfl o2 dX12_asService_5 ?_
  refine e_istore (lv' := [(4, iV (mI M 96 p1.toNatClampNeg)), (0, rV (some 60)), (1, iV p1), (2, iV p2), (3, iV p3)]) (by decide) rfl dX12_asService_6 ?_
  refine e_iload rfl dX12_asService_8 ?_
  refine e_if_eq (tgt := 43) dX12_asService_10 (by decide) (fun c3 => ?_) (fun c3 => ?_)
  · replace h := h.1 c3
    refine e_iload rfl dX12_asService_43 ?_
    refine e_if_ne (tgt := 69) dX12_asService_45 (by decide) (fun c4 => ?_) (fun c4 => ?_)
    · replace h := h.1 c4
      refine e_aload_n dX12_asService_69 rfl rfl ?_
      refine e_aload_n dX12_asService_70 rfl rfl ?_
      obtain ⟨o5, h⟩ := h
      refine e_gA flX12_49 rfl rfl o5 dX12_asService_71 ?_
      refine e_aload_n dX12_asService_74 rfl rfl ?_
      obtain ⟨o6, h⟩ := h
      refine e_gA flX12_101 rfl rfl o6 dX12_asService_75 ?_
      refine e_iload_n dX12_asService_78 rfl rfl ?_
      obtain ⟨o7, h⟩ := h
      refine e_iald rfl o7 dX12_asService_79 ?_
      obtain ⟨o8, h⟩ := h
      refine e_iald rfl o8 dX12_asService_80 ?_
      refine e_callV (As := [iV (mI M 77 (mI M 97 p1.toNatClampNeg).toNatClampNeg)]) (st := []) mt_X12_done in_X12_done lkX12_363 rfl rfl ⟨by decide, by decide⟩ (Nat.le_of_ble_eq_true rfl) ⟨by decide, by decide⟩ rfl rfl dX12_asService_81 (Ctr.mono h (fun v M9 h => ?_))
      obtain ⟨r10, rfl, h⟩ := h
      show E_X12_asService l q 84 [(4, iV (mI M 96 p1.toNatClampNeg)), (0, rV (some 60)), (1, iV p1), (2, iV p2), (3, iV p3)] [iV r10] M9 0 0
      exact e_iret rfl trivial dX12_asService_84 ⟨_, rfl, h⟩
    · replace h := h.2 c4
      refine e_iload_n dX12_asService_48 rfl rfl ?_
      refine e_bipush (v := 11) dX12_asService_49 (by decide) ?_
      refine e_ic_ne (tgt := 63) dX12_asService_51 (by decide) (fun c11 => ?_) (fun c11 => ?_)
      · replace h := h.1 c11
        refine e_aload_n dX12_asService_63 rfl rfl ?_
        refine e_iconst (v := 0) dX12_asService_64 (by decide) ?_
        refine e_callV (As := [iV 0]) (st := []) mt_X12_done in_X12_done lkX12_363 rfl rfl ⟨by decide, by decide⟩ (Nat.le_of_ble_eq_true rfl) ⟨by decide, by decide⟩ rfl rfl dX12_asService_65 (Ctr.mono h (fun v M12 h => ?_))
        obtain ⟨r13, rfl, h⟩ := h
        show E_X12_asService l q 68 [(4, iV (mI M 96 p1.toNatClampNeg)), (0, rV (some 60)), (1, iV p1), (2, iV p2), (3, iV p3)] [iV r13] M12 0 0
        exact e_iret rfl trivial dX12_asService_68 ⟨_, rfl, h⟩
      · replace h := h.2 c11
        refine e_aload_n dX12_asService_54 rfl rfl ?_
        refine e_bipush (v := 10) dX12_asService_55 (by decide) ?_
        refine e_callV (As := [iV 10]) (st := []) mt_X12_refuse in_X12_refuse lkX12_360 rfl rfl ⟨by decide, by decide⟩ (Nat.le_of_ble_eq_true rfl) ⟨by decide, by decide⟩ rfl rfl dX12_asService_57 (Ctr.mono h (fun v M14 h => ?_))
        obtain ⟨r15, rfl, h⟩ := h
        show E_X12_asService l q 60 [(4, iV (mI M 96 p1.toNatClampNeg)), (0, rV (some 60)), (1, iV p1), (2, iV p2), (3, iV p3)] [iV r15] M14 0 0
        refine e_goto (tgt := 68) dX12_asService_60 (by decide) ?_
        exact e_iret rfl trivial dX12_asService_68 ⟨_, rfl, h⟩
  · replace h := h.2 c3
    refine e_iload rfl dX12_asService_13 ?_
    refine e_iconst (v := 1) dX12_asService_15 (by decide) ?_
    refine e_ic_ne (tgt := 37) dX12_asService_16 (by decide) (fun c16 => ?_) (fun c16 => ?_)
    · replace h := h.1 c16
      refine e_aload_n dX12_asService_37 rfl rfl ?_
      refine e_iload_n dX12_asService_38 rfl rfl ?_
      refine e_callV (As := [iV p3]) (st := []) mt_X12_refuse in_X12_refuse lkX12_360 rfl rfl ⟨by decide, by decide⟩ (Nat.le_of_ble_eq_true rfl) ⟨by decide, by decide⟩ rfl rfl dX12_asService_39 (Ctr.mono h (fun v M17 h => ?_))
      obtain ⟨r18, rfl, h⟩ := h
      show E_X12_asService l q 42 [(4, iV (mI M 96 p1.toNatClampNeg)), (0, rV (some 60)), (1, iV p1), (2, iV p2), (3, iV p3)] [iV r18] M17 0 0
      exact e_iret rfl trivial dX12_asService_42 ⟨_, rfl, h⟩
    · replace h := h.2 c16
      refine e_aload_n dX12_asService_19 rfl rfl ?_
      obtain ⟨o19, h⟩ := h
      refine e_gA flX12_46 rfl rfl o19 dX12_asService_20 ?_
      refine e_aload_n dX12_asService_23 rfl rfl ?_
      obtain ⟨o20, h⟩ := h
      refine e_gA flX12_101 rfl rfl o20 dX12_asService_24 ?_
      refine e_iload_n dX12_asService_27 rfl rfl ?_
      obtain ⟨o21, h⟩ := h
      refine e_iald rfl o21 dX12_asService_28 ?_
      obtain ⟨o22, h⟩ := h
      refine e_iald rfl o22 dX12_asService_29 ?_
      refine e_iload_n dX12_asService_30 rfl rfl ?_
      refine e_callS (As := [iV (mI M 76 (mI M 97 p1.toNatClampNeg).toNatClampNeg), iV p2]) (st := []) mt_X12_isUnder is_X12_isUnder lkX12_366 ⟨by decide, by decide⟩ (Nat.le_of_ble_eq_true rfl) ⟨by decide, by decide⟩ rfl rfl dX12_asService_31 (Ctr.mono h (fun v M23 h => ?_))
      obtain ⟨r24, rfl, h⟩ := h
      show E_X12_asService l q 34 [(4, iV (mI M 96 p1.toNatClampNeg)), (0, rV (some 60)), (1, iV p1), (2, iV p2), (3, iV p3)] [iV r24] M23 0 0
      refine e_if_ne (tgt := 43) dX12_asService_34 (by decide) (fun c25 => ?_) (fun c25 => ?_)
      · replace h := h.1 c25
        refine e_iload rfl dX12_asService_43 ?_
        refine e_if_ne (tgt := 69) dX12_asService_45 (by decide) (fun c26 => ?_) (fun c26 => ?_)
        · replace h := h.1 c26
          refine e_aload_n dX12_asService_69 rfl rfl ?_
          refine e_aload_n dX12_asService_70 rfl rfl ?_
          obtain ⟨o27, h⟩ := h
          refine e_gA flX12_49 rfl rfl o27 dX12_asService_71 ?_
          refine e_aload_n dX12_asService_74 rfl rfl ?_
          obtain ⟨o28, h⟩ := h
          refine e_gA flX12_101 rfl rfl o28 dX12_asService_75 ?_
          refine e_iload_n dX12_asService_78 rfl rfl ?_
          obtain ⟨o29, h⟩ := h
          refine e_iald rfl o29 dX12_asService_79 ?_
          obtain ⟨o30, h⟩ := h
          refine e_iald rfl o30 dX12_asService_80 ?_
          refine e_callV (As := [iV (mI M23 77 (mI M23 97 p1.toNatClampNeg).toNatClampNeg)]) (st := []) mt_X12_done in_X12_done lkX12_363 rfl rfl ⟨by decide, by decide⟩ (Nat.le_of_ble_eq_true rfl) ⟨by decide, by decide⟩ rfl rfl dX12_asService_81 (Ctr.mono h (fun v M31 h => ?_))
          obtain ⟨r32, rfl, h⟩ := h
          show E_X12_asService l q 84 [(4, iV (mI M 96 p1.toNatClampNeg)), (0, rV (some 60)), (1, iV p1), (2, iV p2), (3, iV p3)] [iV r32] M31 0 0
          exact e_iret rfl trivial dX12_asService_84 ⟨_, rfl, h⟩
        · replace h := h.2 c26
          refine e_iload_n dX12_asService_48 rfl rfl ?_
          refine e_bipush (v := 11) dX12_asService_49 (by decide) ?_
          refine e_ic_ne (tgt := 63) dX12_asService_51 (by decide) (fun c33 => ?_) (fun c33 => ?_)
          · replace h := h.1 c33
            refine e_aload_n dX12_asService_63 rfl rfl ?_
            refine e_iconst (v := 0) dX12_asService_64 (by decide) ?_
            refine e_callV (As := [iV 0]) (st := []) mt_X12_done in_X12_done lkX12_363 rfl rfl ⟨by decide, by decide⟩ (Nat.le_of_ble_eq_true rfl) ⟨by decide, by decide⟩ rfl rfl dX12_asService_65 (Ctr.mono h (fun v M34 h => ?_))
            obtain ⟨r35, rfl, h⟩ := h
            show E_X12_asService l q 68 [(4, iV (mI M 96 p1.toNatClampNeg)), (0, rV (some 60)), (1, iV p1), (2, iV p2), (3, iV p3)] [iV r35] M34 0 0
            exact e_iret rfl trivial dX12_asService_68 ⟨_, rfl, h⟩
          · replace h := h.2 c33
            refine e_aload_n dX12_asService_54 rfl rfl ?_
            refine e_bipush (v := 10) dX12_asService_55 (by decide) ?_
            refine e_callV (As := [iV 10]) (st := []) mt_X12_refuse in_X12_refuse lkX12_360 rfl rfl ⟨by decide, by decide⟩ (Nat.le_of_ble_eq_true rfl) ⟨by decide, by decide⟩ rfl rfl dX12_asService_57 (Ctr.mono h (fun v M36 h => ?_))
            obtain ⟨r37, rfl, h⟩ := h
            show E_X12_asService l q 60 [(4, iV (mI M 96 p1.toNatClampNeg)), (0, rV (some 60)), (1, iV p1), (2, iV p2), (3, iV p3)] [iV r37] M36 0 0
            refine e_goto (tgt := 68) dX12_asService_60 (by decide) ?_
            exact e_iret rfl trivial dX12_asService_68 ⟨_, rfl, h⟩
      · replace h := h.2 c25
        refine e_aload_n dX12_asService_37 rfl rfl ?_
        refine e_iload_n dX12_asService_38 rfl rfl ?_
        refine e_callV (As := [iV p3]) (st := []) mt_X12_refuse in_X12_refuse lkX12_360 rfl rfl ⟨by decide, by decide⟩ (Nat.le_of_ble_eq_true rfl) ⟨by decide, by decide⟩ rfl rfl dX12_asService_39 (Ctr.mono h (fun v M38 h => ?_))
        obtain ⟨r39, rfl, h⟩ := h
        show E_X12_asService l q 42 [(4, iV (mI M 96 p1.toNatClampNeg)), (0, rV (some 60)), (1, iV p1), (2, iV p2), (3, iV p3)] [iV r39] M38 0 0
        exact e_iret rfl trivial dX12_asService_42 ⟨_, rfl, h⟩
abbrev H_X12_copied_68 (l : Launch) (q : Int32 → o_M → Prop) (v1 : Int32) (v2 : Int32) (v3 : Int64) (v5 : Int32) (M : o_M) : Prop := E_X12_copied l q 68 [(0, rV (some 60)), (1, iV v1), (2, iV v2), (3, jV v3), (5, iV v5)] [] M 0 0
theorem w_X12_copied (l : Launch) (p1 : Int32) (p2 : Int32) (M : o_M) (q : Int32 → o_M → Prop) (h : (mR M 60 35 = some 96 ∧ (vp_in p1 (mN M 96) ∧ ((¬ (mI M 96 p1.toNatClampNeg) = 0 → (mR M 60 35 = some 96 ∧ (vp_in p1 (mN M 96) ∧ (((mI M 96 p1.toNatClampNeg) = 3 → ((p2 < 0 → K_X12_refuse l [rV (some 60), iV 12] M (fun r9 M8 => q r9 M8)) ∧ (¬ p2 < 0 → (mR M 60 37 = some 98 ∧ (vp_in p1 (mN M 98) ∧ (((mI M 98 p1.toNatClampNeg) < (1 + p2) → K_X12_refuse l [rV (some 60), iV 12] M (fun r14 M13 => q r14 M13)) ∧ (¬ (mI M 98 p1.toNatClampNeg) < (1 + p2) → (((2 * p2) ≤ 5 → H_X12_copied_68 l q p1 p2 0 0 M) ∧ (¬ (2 * p2) ≤ 5 → K_X12_refuse l [rV (some 60), iV 12] M (fun r17 M16 => q r17 M16)))))))))) ∧ (¬ (mI M 96 p1.toNatClampNeg) = 3 → K_X12_refuse l [rV (some 60), iV 11] M (fun r19 M18 => q r19 M18)))))) ∧ ((mI M 96 p1.toNatClampNeg) = 0 → K_X12_refuse l [rV (some 60), iV 10] M (fun r21 M20 => q r21 M20)))))) : K_X12_copied l [rV (some 60), iV p1, iV p2] M q := by
  refine o_ctr (ini := false) (by decide +kernel) rfl (fun z => by cases z) (Nat.le_of_ble_eq_true rfl) ?_
  show E_X12_copied l q 0 [(0, rV (some 60)), (1, iV p1), (2, iV p2)] [] M 0 0
  refine e_aload_n dX12_copied_0 rfl rfl ?_
  obtain ⟨o1, h⟩ := h
  refine e_gA flX12_98 rfl rfl o1 dX12_copied_1 ?_
  refine e_iload_n dX12_copied_4 rfl rfl ?_
  obtain ⟨o2, h⟩ := h
  refine e_iald rfl o2 dX12_copied_5 ?_
  refine e_if_ne (tgt := 16) dX12_copied_6 (by decide) (fun c3 => ?_) (fun c3 => ?_)
  · replace h := h.1 c3
    refine e_aload_n dX12_copied_16 rfl rfl ?_
    obtain ⟨o4, h⟩ := h
    refine e_gA flX12_98 rfl rfl o4 dX12_copied_17 ?_
    refine e_iload_n dX12_copied_20 rfl rfl ?_
    obtain ⟨o5, h⟩ := h
    refine e_iald rfl o5 dX12_copied_21 ?_
    refine e_iconst (v := 3) dX12_copied_22 (by decide) ?_
    refine e_ic_eq (tgt := 33) dX12_copied_23 (by decide) (fun c6 => ?_) (fun c6 => ?_)
    · replace h := h.1 c6
      refine e_iload_n dX12_copied_33 rfl rfl ?_
      refine e_if_lt (tgt := 56) dX12_copied_34 (by decide) (fun c7 => ?_) (fun c7 => ?_)
      · replace h := h.1 c7
        refine e_aload_n dX12_copied_56 rfl rfl ?_
        refine e_bipush (v := 12) dX12_copied_57 (by decide) ?_
        refine e_callV (As := [iV 12]) (st := []) mt_X12_refuse in_X12_refuse lkX12_360 rfl rfl ⟨by decide, by decide⟩ (Nat.le_of_ble_eq_true rfl) ⟨by decide, by decide⟩ rfl rfl dX12_copied_59 (Ctr.mono h (fun v M8 h => ?_))
        obtain ⟨r9, rfl, h⟩ := h
        show E_X12_copied l q 62 [(0, rV (some 60)), (1, iV p1), (2, iV p2)] [iV r9] M8 0 0
        exact e_iret rfl trivial dX12_copied_62 ⟨_, rfl, h⟩
      · replace h := h.2 c7
        refine e_iconst (v := 1) dX12_copied_37 (by decide) ?_
        refine e_iload_n dX12_copied_38 rfl rfl ?_
        refine e_iadd dX12_copied_39 ?_
        refine e_aload_n dX12_copied_40 rfl rfl ?_
        obtain ⟨o10, h⟩ := h
        refine e_gA flX12_104 rfl rfl o10 dX12_copied_41 ?_
        refine e_iload_n dX12_copied_44 rfl rfl ?_
        obtain ⟨o11, h⟩ := h
        refine e_iald rfl o11 dX12_copied_45 ?_
        refine e_ic_gt (tgt := 56) dX12_copied_46 (by decide) (fun c12 => ?_) (fun c12 => ?_)
        · replace h := h.1 c12
          refine e_aload_n dX12_copied_56 rfl rfl ?_
          refine e_bipush (v := 12) dX12_copied_57 (by decide) ?_
          refine e_callV (As := [iV 12]) (st := []) mt_X12_refuse in_X12_refuse lkX12_360 rfl rfl ⟨by decide, by decide⟩ (Nat.le_of_ble_eq_true rfl) ⟨by decide, by decide⟩ rfl rfl dX12_copied_59 (Ctr.mono h (fun v M13 h => ?_))
          obtain ⟨r14, rfl, h⟩ := h
          show E_X12_copied l q 62 [(0, rV (some 60)), (1, iV p1), (2, iV p2)] [iV r14] M13 0 0
          exact e_iret rfl trivial dX12_copied_62 ⟨_, rfl, h⟩
        · replace h := h.2 c12
          refine e_iconst (v := 2) dX12_copied_49 (by decide) ?_
          refine e_iload_n dX12_copied_50 rfl rfl ?_
          refine e_imul dX12_copied_51 ?_
          refine e_iconst (v := 5) dX12_copied_52 (by decide) ?_
          refine e_ic_le (tgt := 63) dX12_copied_53 (by decide) (fun c15 => ?_) (fun c15 => ?_)
          · replace h := h.1 c15
            refine e_lconst (v := 0) dX12_copied_63 (by decide) ?_
            refine e_lstore_n (lv' := [(3, jV 0), (0, rV (some 60)), (1, iV p1), (2, iV p2)]) dX12_copied_64 rfl (by decide) rfl ?_
            refine e_iconst (v := 0) dX12_copied_65 (by decide) ?_
            refine e_istore (lv' := [(5, iV 0), (3, jV 0), (0, rV (some 60)), (1, iV p1), (2, iV p2)]) (by decide) rfl dX12_copied_66 ?_
            exact e_lv (List.forall_mem_cons.mpr ⟨rfl, List.forall_mem_cons.mpr ⟨rfl, List.forall_mem_cons.mpr ⟨rfl, List.forall_mem_cons.mpr ⟨rfl, List.forall_mem_cons.mpr ⟨rfl, fun _ h => absurd h List.not_mem_nil⟩⟩⟩⟩⟩) h
          · replace h := h.2 c15
            refine e_aload_n dX12_copied_56 rfl rfl ?_
            refine e_bipush (v := 12) dX12_copied_57 (by decide) ?_
            refine e_callV (As := [iV 12]) (st := []) mt_X12_refuse in_X12_refuse lkX12_360 rfl rfl ⟨by decide, by decide⟩ (Nat.le_of_ble_eq_true rfl) ⟨by decide, by decide⟩ rfl rfl dX12_copied_59 (Ctr.mono h (fun v M16 h => ?_))
            obtain ⟨r17, rfl, h⟩ := h
            show E_X12_copied l q 62 [(0, rV (some 60)), (1, iV p1), (2, iV p2)] [iV r17] M16 0 0
            exact e_iret rfl trivial dX12_copied_62 ⟨_, rfl, h⟩
    · replace h := h.2 c6
      refine e_aload_n dX12_copied_26 rfl rfl ?_
      refine e_bipush (v := 11) dX12_copied_27 (by decide) ?_
      refine e_callV (As := [iV 11]) (st := []) mt_X12_refuse in_X12_refuse lkX12_360 rfl rfl ⟨by decide, by decide⟩ (Nat.le_of_ble_eq_true rfl) ⟨by decide, by decide⟩ rfl rfl dX12_copied_29 (Ctr.mono h (fun v M18 h => ?_))
      obtain ⟨r19, rfl, h⟩ := h
      show E_X12_copied l q 32 [(0, rV (some 60)), (1, iV p1), (2, iV p2)] [iV r19] M18 0 0
      exact e_iret rfl trivial dX12_copied_32 ⟨_, rfl, h⟩
  · replace h := h.2 c3
    refine e_aload_n dX12_copied_9 rfl rfl ?_
    refine e_bipush (v := 10) dX12_copied_10 (by decide) ?_
    refine e_callV (As := [iV 10]) (st := []) mt_X12_refuse in_X12_refuse lkX12_360 rfl rfl ⟨by decide, by decide⟩ (Nat.le_of_ble_eq_true rfl) ⟨by decide, by decide⟩ rfl rfl dX12_copied_12 (Ctr.mono h (fun v M20 h => ?_))
    obtain ⟨r21, rfl, h⟩ := h
    show E_X12_copied l q 15 [(0, rV (some 60)), (1, iV p1), (2, iV p2)] [iV r21] M20 0 0
    exact e_iret rfl trivial dX12_copied_15 ⟨_, rfl, h⟩
theorem w_X12_copied_68 (l : Launch) (q : Int32 → o_M → Prop) (v1 : Int32) (v2 : Int32) (v3 : Int64) (v5 : Int32) (M : o_M) (h : ((v2 ≤ v5 → K_X12_done l [rV (some 60), iV v3.toInt32] M (fun r24 M23 => q r24 M23)) ∧ (¬ v2 ≤ v5 → (mR M 60 38 = some 99 ∧ (vp_in (((300 * v1) + 1) + v5) (mN M 99) ∧ H_X12_copied_68 l q v1 v2 (v3 + (mJ M 99 (((300 * v1) + 1) + v5).toNatClampNeg)) (v5 + 1) M))))) : H_X12_copied_68 l q v1 v2 v3 v5 M := by
  refine e_iload rfl dX12_copied_68 ?_
  refine e_iload_n dX12_copied_70 rfl rfl ?_
  refine e_ic_ge (tgt := 98) dX12_copied_71 (by decide) (fun c22 => ?_) (fun c22 => ?_)
  · replace h := h.1 c22
    refine e_aload_n dX12_copied_98 rfl rfl ?_
    refine e_lload_n dX12_copied_99 rfl rfl ?_
    refine e_l2i dX12_copied_100 ?_
    refine e_callV (As := [iV v3.toInt32]) (st := []) mt_X12_done in_X12_done lkX12_363 rfl rfl ⟨by decide, by decide⟩ (Nat.le_of_ble_eq_true rfl) ⟨by decide, by decide⟩ rfl rfl dX12_copied_101 (Ctr.mono h (fun v M23 h => ?_))
    obtain ⟨r24, rfl, h⟩ := h
    show E_X12_copied l q 104 [(0, rV (some 60)), (1, iV v1), (2, iV v2), (3, jV v3), (5, iV v5)] [iV r24] M23 0 0
    exact e_iret rfl trivial dX12_copied_104 ⟨_, rfl, h⟩
  · replace h := h.2 c22
    refine e_lload_n dX12_copied_74 rfl rfl ?_
    refine e_aload_n dX12_copied_75 rfl rfl ?_
    obtain ⟨o25, h⟩ := h
    refine e_gA flX12_107 rfl rfl o25 dX12_copied_76 ?_
    refine e_sipush (v := 300) dX12_copied_79 (by decide) ?_
    refine e_iload_n dX12_copied_82 rfl rfl ?_
    refine e_imul dX12_copied_83 ?_
    refine e_iconst (v := 1) dX12_copied_84 (by decide) ?_
    refine e_iadd dX12_copied_85 ?_
    refine e_iload rfl dX12_copied_86 ?_
    refine e_iadd dX12_copied_88 ?_
    obtain ⟨o26, h⟩ := h
    refine e_lald rfl o26 dX12_copied_89 ?_
    refine e_ladd dX12_copied_90 ?_
    refine e_lstore_n (lv' := [(3, jV (v3 + (mJ M 99 (((300 * v1) + 1) + v5).toNatClampNeg))), (0, rV (some 60)), (1, iV v1), (2, iV v2), (5, iV v5)]) dX12_copied_91 rfl (by decide) rfl ?_
    refine e_iinc (v := 1) (lv' := [(5, iV (v5 + 1)), (3, jV (v3 + (mJ M 99 (((300 * v1) + 1) + v5).toNatClampNeg))), (0, rV (some 60)), (1, iV v1), (2, iV v2)]) rfl (by decide) (by decide) rfl dX12_copied_92 ?_
    refine e_goto (tgt := 68) dX12_copied_95 (by decide) ?_
    exact e_lv (List.forall_mem_cons.mpr ⟨rfl, List.forall_mem_cons.mpr ⟨rfl, List.forall_mem_cons.mpr ⟨rfl, List.forall_mem_cons.mpr ⟨rfl, List.forall_mem_cons.mpr ⟨rfl, fun _ h => absurd h List.not_mem_nil⟩⟩⟩⟩⟩) h
theorem w_X12_ends (l : Launch) (p1 : Int32) (M : o_M) (q : Int32 → o_M → Prop) (h : K_X12_begins l [rV (some 60), iV p1] M (fun r2 M1 => (mR M1 60 18 = some 79 ∧ (vp_in p1 (mN M1 79) ∧ q (r2 + (mI M1 79 p1.toNatClampNeg)) M1)))) : K_X12_ends l [rV (some 60), iV p1] M q := by
  refine o_ctr (ini := false) (by decide +kernel) rfl (fun z => by cases z) (Nat.le_of_ble_eq_true rfl) ?_
  show E_X12_ends l q 0 [(0, rV (some 60)), (1, iV p1)] [] M 0 0
  refine e_aload_n dX12_ends_0 rfl rfl ?_
  refine e_iload_n dX12_ends_1 rfl rfl ?_
  refine e_callV (As := [iV p1]) (st := []) mt_X12_begins in_X12_begins lkX12_281 rfl rfl ⟨by decide, by decide⟩ (Nat.le_of_ble_eq_true rfl) ⟨by decide, by decide⟩ rfl rfl dX12_ends_2 (Ctr.mono h (fun v M1 h => ?_))
  obtain ⟨r2, rfl, h⟩ := h
  show E_X12_ends l q 5 [(0, rV (some 60)), (1, iV p1)] [iV r2] M1 0 0
  refine e_aload_n dX12_ends_5 rfl rfl ?_
  obtain ⟨o3, h⟩ := h
  refine e_gA flX12_55 rfl rfl o3 dX12_ends_6 ?_
  refine e_iload_n dX12_ends_9 rfl rfl ?_
  obtain ⟨o4, h⟩ := h
  refine e_iald rfl o4 dX12_ends_10 ?_
  refine e_iadd dX12_ends_11 ?_
  exact e_iret rfl trivial dX12_ends_12 ⟨_, rfl, h⟩
abbrev H_X12_feed_31 (l : Launch) (q : Int32 → o_M → Prop) (v1 : Int32) (v2 : Int64) (v4 : Int32) (M : o_M) : Prop := E_X12_feed l q 31 [(0, rV (some 60)), (1, iV v1), (2, jV v2), (4, iV v4)] [] M 0 0
theorem w_X12_feed (l : Launch) (p1 : Int32) (p2 : Int64) (M : o_M) (q : Int32 → o_M → Prop) (h : K_X12_in l [iV p1, iV 1, iV 8] M (fun r2 M1 => ((¬ r2 = 0 → ((((mI M1 60 24) + p1) ≤ 300 → H_X12_feed_31 l q p1 p2 0 M1) ∧ (¬ ((mI M1 60 24) + p1) ≤ 300 → q (-4) M1))) ∧ (r2 = 0 → q (-2) M1)))) : K_X12_feed l [rV (some 60), iV p1, jV p2] M q := by
  refine o_ctr (ini := false) (by decide +kernel) rfl (fun z => by cases z) (Nat.le_of_ble_eq_true rfl) ?_
  show E_X12_feed l q 0 [(0, rV (some 60)), (1, iV p1), (2, jV p2)] [] M 0 0
  refine e_iload_n dX12_feed_0 rfl rfl ?_
  refine e_iconst (v := 1) dX12_feed_1 (by decide) ?_
  refine e_bipush (v := 8) dX12_feed_2 (by decide) ?_
  refine e_callS (As := [iV p1, iV 1, iV 8]) (st := []) mt_X12_in is_X12_in lkX12_155 ⟨by decide, by decide⟩ (Nat.le_of_ble_eq_true rfl) ⟨by decide, by decide⟩ rfl rfl dX12_feed_4 (Ctr.mono h (fun v M1 h => ?_))
  obtain ⟨r2, rfl, h⟩ := h
  show E_X12_feed l q 7 [(0, rV (some 60)), (1, iV p1), (2, jV p2)] [iV r2] M1 0 0
  refine e_if_ne (tgt := 13) dX12_feed_7 (by decide) (fun c3 => ?_) (fun c3 => ?_)
  · replace h := h.1 c3
    refine e_aload_n dX12_feed_13 rfl rfl ?_
    refine e_gI flX12_301 rfl rfl dX12_feed_14 ?_
    refine e_iload_n dX12_feed_17 rfl rfl ?_
    refine e_iadd dX12_feed_18 ?_
    refine e_sipush (v := 300) dX12_feed_19 (by decide) ?_
    refine e_ic_le (tgt := 28) dX12_feed_22 (by decide) (fun c4 => ?_) (fun c4 => ?_)
    · replace h := h.1 c4
      refine e_iconst (v := 0) dX12_feed_28 (by decide) ?_
      refine e_istore (lv' := [(4, iV 0), (0, rV (some 60)), (1, iV p1), (2, jV p2)]) (by decide) rfl dX12_feed_29 ?_
      exact e_lv (List.forall_mem_cons.mpr ⟨rfl, List.forall_mem_cons.mpr ⟨rfl, List.forall_mem_cons.mpr ⟨rfl, List.forall_mem_cons.mpr ⟨rfl, fun _ h => absurd h List.not_mem_nil⟩⟩⟩⟩) h
    · replace h := h.2 c4
      refine e_bipush (v := (-4)) dX12_feed_25 (by decide) ?_
      exact e_iret rfl trivial dX12_feed_27 ⟨_, rfl, h⟩
  · replace h := h.2 c3
    refine e_bipush (v := (-2)) dX12_feed_10 (by decide) ?_
    exact e_iret rfl trivial dX12_feed_12 ⟨_, rfl, h⟩
theorem w_X12_feed_31 (l : Launch) (q : Int32 → o_M → Prop) (v1 : Int32) (v2 : Int64) (v4 : Int32) (M : o_M) (h : ((v1 ≤ v4 → q (mI M 60 24) M) ∧ (¬ v1 ≤ v4 → (mR M 60 23 = some 84 ∧ (vp_in (mI M 60 24) (mN M 84) ∧ H_X12_feed_31 l q v1 v2 (v4 + 1) (sI (sI M 84 ((mI M 60 24).toNatClampNeg) (((v2 >>> ((8 * v4).toInt64 &&& 63)) &&& 255).toInt32)) 60 24 ((mI (sI M 84 ((mI M 60 24).toNatClampNeg) (((v2 >>> ((8 * v4).toInt64 &&& 63)) &&& 255).toInt32)) 60 24) + 1))))))) : H_X12_feed_31 l q v1 v2 v4 M := by
  refine e_iload rfl dX12_feed_31 ?_
  refine e_iload_n dX12_feed_33 rfl rfl ?_
  refine e_ic_ge (tgt := 74) dX12_feed_34 (by decide) (fun c5 => ?_) (fun c5 => ?_)
  · replace h := h.1 c5
    refine e_aload_n dX12_feed_74 rfl rfl ?_
    refine e_gI flX12_301 rfl rfl dX12_feed_75 ?_
    exact e_iret rfl trivial dX12_feed_78 ⟨_, rfl, h⟩
  · replace h := h.2 c5
    refine e_aload_n dX12_feed_37 rfl rfl ?_
    obtain ⟨o6, h⟩ := h
    refine e_gA flX12_71 rfl rfl o6 dX12_feed_38 ?_
    refine e_aload_n dX12_feed_41 rfl rfl ?_
    refine e_gI flX12_301 rfl rfl dX12_feed_42 ?_
    refine e_lload_n dX12_feed_45 rfl rfl ?_
    refine e_bipush (v := 8) dX12_feed_46 (by decide) ?_
    refine e_iload rfl dX12_feed_48 ?_
    refine e_imul dX12_feed_50 ?_
    refine e_lshr dX12_feed_51 ?_
    refine e_ldc2 kcX12_304 dX12_feed_52 ?_
    refine e_land dX12_feed_55 ?_
    refine e_l2i dX12_feed_56 ?_
    obtain ⟨o7, h⟩ := h
    refine e_iast rfl o7 dX12_feed_57 ?_
    refine e_aload_n dX12_feed_58 rfl rfl ?_
    refine e_dup rfl dX12_feed_59 ?_
    refine e_gI flX12_301 rfl rfl dX12_feed_60 ?_
    refine e_iconst (v := 1) dX12_feed_63 (by decide) ?_
    refine e_iadd dX12_feed_64 ?_
    refine e_pI flX12_301 rfl (Or.inl rfl) rfl rfl rfl dX12_feed_65 ?_
    refine e_iinc (v := 1) (lv' := [(4, iV (v4 + 1)), (0, rV (some 60)), (1, iV v1), (2, jV v2)]) rfl (by decide) (by decide) rfl dX12_feed_68 ?_
    refine e_goto (tgt := 31) dX12_feed_71 (by decide) ?_
    exact e_lv (List.forall_mem_cons.mpr ⟨rfl, List.forall_mem_cons.mpr ⟨rfl, List.forall_mem_cons.mpr ⟨rfl, List.forall_mem_cons.mpr ⟨rfl, fun _ h => absurd h List.not_mem_nil⟩⟩⟩⟩) h
abbrev H_X12_isAway_5 (l : Launch) (q : Int32 → o_M → Prop) (v1 : Int32) (v2 : Int32) (v3 : Int32) (v4 : Int32) (M : o_M) : Prop := E_X12_isAway l q 5 [(0, rV (some 60)), (1, iV v1), (2, iV v2), (3, iV v3), (4, iV v4)] [] M 0 0
theorem w_X12_isAway (l : Launch) (p1 : Int32) (p2 : Int32) (M : o_M) (q : Int32 → o_M → Prop) (h : H_X12_isAway_5 l q p1 p2 0 0 M) : K_X12_isAway l [rV (some 60), iV p1, iV p2] M q := by
  refine o_ctr (ini := false) (by decide +kernel) rfl (fun z => by cases z) (Nat.le_of_ble_eq_true rfl) ?_
  show E_X12_isAway l q 0 [(0, rV (some 60)), (1, iV p1), (2, iV p2)] [] M 0 0
  refine e_iconst (v := 0) dX12_isAway_0 (by decide) ?_
  refine e_istore_n (lv' := [(3, iV 0), (0, rV (some 60)), (1, iV p1), (2, iV p2)]) dX12_isAway_1 rfl (by decide) rfl ?_
  refine e_iconst (v := 0) dX12_isAway_2 (by decide) ?_
  refine e_istore (lv' := [(4, iV 0), (3, iV 0), (0, rV (some 60)), (1, iV p1), (2, iV p2)]) (by decide) rfl dX12_isAway_3 ?_
  exact e_lv (List.forall_mem_cons.mpr ⟨rfl, List.forall_mem_cons.mpr ⟨rfl, List.forall_mem_cons.mpr ⟨rfl, List.forall_mem_cons.mpr ⟨rfl, List.forall_mem_cons.mpr ⟨rfl, fun _ h => absurd h List.not_mem_nil⟩⟩⟩⟩⟩) h
theorem w_X12_isAway_5 (l : Launch) (q : Int32 → o_M → Prop) (v1 : Int32) (v2 : Int32) (v3 : Int32) (v4 : Int32) (M : o_M) (h : (mR M 60 11 = some 72 ∧ (vp_in v1 (mN M 72) ∧ (((mI M 72 v1.toNatClampNeg) ≤ v4 → (narrow .boolean (.int v3) = .int v3 ∧ q v3 M)) ∧ (¬ (mI M 72 v1.toNatClampNeg) ≤ v4 → ((¬ v3 = 0 → H_X12_isAway_5 l q v1 v2 1 (v4 + 1) M) ∧ (v3 = 0 → (mR M 60 12 = some 73 ∧ (vp_in ((6 * v1) + v4) (mN M 73) ∧ (mR M 60 13 = some 74 ∧ (vp_in ((6 * v1) + v4) (mN M 74) ∧ K_X12_in l [iV v2, iV (mI M 73 ((6 * v1) + v4).toNatClampNeg), iV (mI M 74 ((6 * v1) + v4).toNatClampNeg)] M (fun r11 M10 => ((r11 = 0 → H_X12_isAway_5 l q v1 v2 0 (v4 + 1) M10) ∧ (¬ r11 = 0 → H_X12_isAway_5 l q v1 v2 1 (v4 + 1) M10)))))))))))))) : H_X12_isAway_5 l q v1 v2 v3 v4 M := by
  refine e_iload rfl dX12_isAway_5 ?_
  refine e_aload_n dX12_isAway_7 rfl rfl ?_
  obtain ⟨o1, h⟩ := h
  refine e_gA flX12_37 rfl rfl o1 dX12_isAway_8 ?_
  refine e_iload_n dX12_isAway_11 rfl rfl ?_
  obtain ⟨o2, h⟩ := h
  refine e_iald rfl o2 dX12_isAway_12 ?_
  refine e_ic_ge (tgt := 63) dX12_isAway_13 (by decide) (fun c3 => ?_) (fun c3 => ?_)
  · replace h := h.1 c3
    refine e_iload_n dX12_isAway_63 rfl rfl ?_
    obtain ⟨o4, h⟩ := h
    exact e_iret rfl o4 dX12_isAway_64 ⟨_, rfl, h⟩
  · replace h := h.2 c3
    refine e_iload_n dX12_isAway_16 rfl rfl ?_
    refine e_if_ne (tgt := 51) dX12_isAway_17 (by decide) (fun c5 => ?_) (fun c5 => ?_)
    · replace h := h.1 c5
      refine e_iconst (v := 1) dX12_isAway_51 (by decide) ?_
      refine e_goto (tgt := 56) dX12_isAway_52 (by decide) ?_
      refine e_istore_n (lv' := [(3, iV 1), (0, rV (some 60)), (1, iV v1), (2, iV v2), (4, iV v4)]) dX12_isAway_56 rfl (by decide) rfl ?_
      refine e_iinc (v := 1) (lv' := [(4, iV (v4 + 1)), (3, iV 1), (0, rV (some 60)), (1, iV v1), (2, iV v2)]) rfl (by decide) (by decide) rfl dX12_isAway_57 ?_
      refine e_goto (tgt := 5) dX12_isAway_60 (by decide) ?_
      exact e_lv (List.forall_mem_cons.mpr ⟨rfl, List.forall_mem_cons.mpr ⟨rfl, List.forall_mem_cons.mpr ⟨rfl, List.forall_mem_cons.mpr ⟨rfl, List.forall_mem_cons.mpr ⟨rfl, fun _ h => absurd h List.not_mem_nil⟩⟩⟩⟩⟩) h
    · replace h := h.2 c5
      refine e_iload_n dX12_isAway_20 rfl rfl ?_
      refine e_aload_n dX12_isAway_21 rfl rfl ?_
      obtain ⟨o6, h⟩ := h
      refine e_gA flX12_40 rfl rfl o6 dX12_isAway_22 ?_
      refine e_bipush (v := 6) dX12_isAway_25 (by decide) ?_
      refine e_iload_n dX12_isAway_27 rfl rfl ?_
      refine e_imul dX12_isAway_28 ?_
      refine e_iload rfl dX12_isAway_29 ?_
      refine e_iadd dX12_isAway_31 ?_
      obtain ⟨o7, h⟩ := h
      refine e_iald rfl o7 dX12_isAway_32 ?_
      refine e_aload_n dX12_isAway_33 rfl rfl ?_
      obtain ⟨o8, h⟩ := h
      refine e_gA flX12_43 rfl rfl o8 dX12_isAway_34 ?_
      refine e_bipush (v := 6) dX12_isAway_37 (by decide) ?_
      refine e_iload_n dX12_isAway_39 rfl rfl ?_
      refine e_imul dX12_isAway_40 ?_
      refine e_iload rfl dX12_isAway_41 ?_
      refine e_iadd dX12_isAway_43 ?_
      obtain ⟨o9, h⟩ := h
      refine e_iald rfl o9 dX12_isAway_44 ?_
      refine e_callS (As := [iV v2, iV (mI M 73 ((6 * v1) + v4).toNatClampNeg), iV (mI M 74 ((6 * v1) + v4).toNatClampNeg)]) (st := []) mt_X12_in is_X12_in lkX12_155 ⟨by decide, by decide⟩ (Nat.le_of_ble_eq_true rfl) ⟨by decide, by decide⟩ rfl rfl dX12_isAway_45 (Ctr.mono h (fun v M10 h => ?_))
      obtain ⟨r11, rfl, h⟩ := h
      show E_X12_isAway l q 48 [(0, rV (some 60)), (1, iV v1), (2, iV v2), (3, iV v3), (4, iV v4)] [iV r11] M10 0 0
      refine e_if_eq (tgt := 55) dX12_isAway_48 (by decide) (fun c12 => ?_) (fun c12 => ?_)
      · replace h := h.1 c12
        refine e_iconst (v := 0) dX12_isAway_55 (by decide) ?_
        refine e_istore_n (lv' := [(3, iV 0), (0, rV (some 60)), (1, iV v1), (2, iV v2), (4, iV v4)]) dX12_isAway_56 rfl (by decide) rfl ?_
        refine e_iinc (v := 1) (lv' := [(4, iV (v4 + 1)), (3, iV 0), (0, rV (some 60)), (1, iV v1), (2, iV v2)]) rfl (by decide) (by decide) rfl dX12_isAway_57 ?_
        refine e_goto (tgt := 5) dX12_isAway_60 (by decide) ?_
        exact e_lv (List.forall_mem_cons.mpr ⟨rfl, List.forall_mem_cons.mpr ⟨rfl, List.forall_mem_cons.mpr ⟨rfl, List.forall_mem_cons.mpr ⟨rfl, List.forall_mem_cons.mpr ⟨rfl, fun _ h => absurd h List.not_mem_nil⟩⟩⟩⟩⟩) h
      · replace h := h.2 c12
        refine e_iconst (v := 1) dX12_isAway_51 (by decide) ?_
        refine e_goto (tgt := 56) dX12_isAway_52 (by decide) ?_
        refine e_istore_n (lv' := [(3, iV 1), (0, rV (some 60)), (1, iV v1), (2, iV v2), (4, iV v4)]) dX12_isAway_56 rfl (by decide) rfl ?_
        refine e_iinc (v := 1) (lv' := [(4, iV (v4 + 1)), (3, iV 1), (0, rV (some 60)), (1, iV v1), (2, iV v2)]) rfl (by decide) (by decide) rfl dX12_isAway_57 ?_
        refine e_goto (tgt := 5) dX12_isAway_60 (by decide) ?_
        exact e_lv (List.forall_mem_cons.mpr ⟨rfl, List.forall_mem_cons.mpr ⟨rfl, List.forall_mem_cons.mpr ⟨rfl, List.forall_mem_cons.mpr ⟨rfl, List.forall_mem_cons.mpr ⟨rfl, fun _ h => absurd h List.not_mem_nil⟩⟩⟩⟩⟩) h
theorem w_X12_isBefore (l : Launch) (p1 : Int32) (p2 : Int32) (M : o_M) (q : Int32 → o_M → Prop) (h : K_X12_priceOf l [rV (some 60), iV p1] M (fun r2 M1 => K_X12_priceOf l [rV (some 60), iV p2] M1 (fun r4 M3 => ((r2 < r4 → q 1 M3) ∧ (¬ r2 < r4 → K_X12_priceOf l [rV (some 60), iV p1] M3 (fun r7 M6 => K_X12_priceOf l [rV (some 60), iV p2] M6 (fun r9 M8 => ((¬ r7 = r9 → q 0 M8) ∧ (r7 = r9 → ((((p1 &&& (p1 ^^^ p2)) &&& (-(p1 ^^^ p2))) = 0 → q 0 M8) ∧ (¬ ((p1 &&& (p1 ^^^ p2)) &&& (-(p1 ^^^ p2))) = 0 → q 1 M8))))))))))) : K_X12_isBefore l [rV (some 60), iV p1, iV p2] M q := by
  refine o_ctr (ini := false) (by decide +kernel) rfl (fun z => by cases z) (Nat.le_of_ble_eq_true rfl) ?_
  show E_X12_isBefore l q 0 [(0, rV (some 60)), (1, iV p1), (2, iV p2)] [] M 0 0
  refine e_iload_n dX12_isBefore_0 rfl rfl ?_
  refine e_iload_n dX12_isBefore_1 rfl rfl ?_
  refine e_ixor dX12_isBefore_2 ?_
  refine e_istore_n (lv' := [(3, iV (p1 ^^^ p2)), (0, rV (some 60)), (1, iV p1), (2, iV p2)]) dX12_isBefore_3 rfl (by decide) rfl ?_
  refine e_aload_n dX12_isBefore_4 rfl rfl ?_
  refine e_iload_n dX12_isBefore_5 rfl rfl ?_
  refine e_callV (As := [iV p1]) (st := []) mt_X12_priceOf in_X12_priceOf lkX12_354 rfl rfl ⟨by decide, by decide⟩ (Nat.le_of_ble_eq_true rfl) ⟨by decide, by decide⟩ rfl rfl dX12_isBefore_6 (Ctr.mono h (fun v M1 h => ?_))
  obtain ⟨r2, rfl, h⟩ := h
  show E_X12_isBefore l q 9 [(3, iV (p1 ^^^ p2)), (0, rV (some 60)), (1, iV p1), (2, iV p2)] [iV r2] M1 0 0
  refine e_aload_n dX12_isBefore_9 rfl rfl ?_
  refine e_iload_n dX12_isBefore_10 rfl rfl ?_
  refine e_callV (As := [iV p2]) (st := [iV r2]) mt_X12_priceOf in_X12_priceOf lkX12_354 rfl rfl ⟨by decide, by decide⟩ (Nat.le_of_ble_eq_true rfl) ⟨by decide, by decide⟩ rfl rfl dX12_isBefore_11 (Ctr.mono h (fun v M3 h => ?_))
  obtain ⟨r4, rfl, h⟩ := h
  show E_X12_isBefore l q 14 [(3, iV (p1 ^^^ p2)), (0, rV (some 60)), (1, iV p1), (2, iV p2)] [iV r4, iV r2] M3 0 0
  refine e_ic_lt (tgt := 39) dX12_isBefore_14 (by decide) (fun c5 => ?_) (fun c5 => ?_)
  · replace h := h.1 c5
    refine e_iconst (v := 1) dX12_isBefore_39 (by decide) ?_
    refine e_goto (tgt := 44) dX12_isBefore_40 (by decide) ?_
    exact e_iret rfl rb_1 dX12_isBefore_44 ⟨_, rfl, h⟩
  · replace h := h.2 c5
    refine e_aload_n dX12_isBefore_17 rfl rfl ?_
    refine e_iload_n dX12_isBefore_18 rfl rfl ?_
    refine e_callV (As := [iV p1]) (st := []) mt_X12_priceOf in_X12_priceOf lkX12_354 rfl rfl ⟨by decide, by decide⟩ (Nat.le_of_ble_eq_true rfl) ⟨by decide, by decide⟩ rfl rfl dX12_isBefore_19 (Ctr.mono h (fun v M6 h => ?_))
    obtain ⟨r7, rfl, h⟩ := h
    show E_X12_isBefore l q 22 [(3, iV (p1 ^^^ p2)), (0, rV (some 60)), (1, iV p1), (2, iV p2)] [iV r7] M6 0 0
    refine e_aload_n dX12_isBefore_22 rfl rfl ?_
    refine e_iload_n dX12_isBefore_23 rfl rfl ?_
    refine e_callV (As := [iV p2]) (st := [iV r7]) mt_X12_priceOf in_X12_priceOf lkX12_354 rfl rfl ⟨by decide, by decide⟩ (Nat.le_of_ble_eq_true rfl) ⟨by decide, by decide⟩ rfl rfl dX12_isBefore_24 (Ctr.mono h (fun v M8 h => ?_))
    obtain ⟨r9, rfl, h⟩ := h
    show E_X12_isBefore l q 27 [(3, iV (p1 ^^^ p2)), (0, rV (some 60)), (1, iV p1), (2, iV p2)] [iV r9, iV r7] M8 0 0
    refine e_ic_ne (tgt := 43) dX12_isBefore_27 (by decide) (fun c10 => ?_) (fun c10 => ?_)
    · replace h := h.1 c10
      refine e_iconst (v := 0) dX12_isBefore_43 (by decide) ?_
      exact e_iret rfl rb_0 dX12_isBefore_44 ⟨_, rfl, h⟩
    · replace h := h.2 c10
      refine e_iload_n dX12_isBefore_30 rfl rfl ?_
      refine e_iload_n dX12_isBefore_31 rfl rfl ?_
      refine e_iand dX12_isBefore_32 ?_
      refine e_iload_n dX12_isBefore_33 rfl rfl ?_
      refine e_ineg dX12_isBefore_34 ?_
      refine e_iand dX12_isBefore_35 ?_
      refine e_if_eq (tgt := 43) dX12_isBefore_36 (by decide) (fun c11 => ?_) (fun c11 => ?_)
      · replace h := h.1 c11
        refine e_iconst (v := 0) dX12_isBefore_43 (by decide) ?_
        exact e_iret rfl rb_0 dX12_isBefore_44 ⟨_, rfl, h⟩
      · replace h := h.2 c11
        refine e_iconst (v := 1) dX12_isBefore_39 (by decide) ?_
        refine e_goto (tgt := 44) dX12_isBefore_40 (by decide) ?_
        exact e_iret rfl rb_1 dX12_isBefore_44 ⟨_, rfl, h⟩
theorem w_X12_isDay (l : Launch) (p0 : Int32) (M : o_M) (q : Int32 → o_M → Prop) (h : K_X12_in l [iV p0, iV 0, iV 400] M (fun r2 M1 => (narrow .boolean (.int r2) = .int r2 ∧ q r2 M1))) : K_X12_isDay l [iV p0] M q := by
  refine o_ctr (ini := false) (by decide +kernel) rfl (fun z => by cases z) (Nat.le_of_ble_eq_true rfl) ?_
  show E_X12_isDay l q 0 [(0, iV p0)] [] M 0 0
  refine e_iload_n dX12_isDay_0 rfl rfl ?_
  refine e_iconst (v := 0) dX12_isDay_1 (by decide) ?_
  refine e_sipush (v := 400) dX12_isDay_2 (by decide) ?_
  refine e_callS (As := [iV p0, iV 0, iV 400]) (st := []) mt_X12_in is_X12_in lkX12_155 ⟨by decide, by decide⟩ (Nat.le_of_ble_eq_true rfl) ⟨by decide, by decide⟩ rfl rfl dX12_isDay_5 (Ctr.mono h (fun v M1 h => ?_))
  obtain ⟨r2, rfl, h⟩ := h
  show E_X12_isDay l q 8 [(0, iV p0)] [iV r2] M1 0 0
  obtain ⟨o3, h⟩ := h
  exact e_iret rfl o3 dX12_isDay_8 ⟨_, rfl, h⟩
theorem w_X12_isInstrument (l : Launch) (p0 : Int32) (M : o_M) (q : Int32 → o_M → Prop) (h : K_X12_in l [iV p0, iV 0, iV 5] M (fun r2 M1 => (narrow .boolean (.int r2) = .int r2 ∧ q r2 M1))) : K_X12_isInstrument l [iV p0] M q := by
  refine o_ctr (ini := false) (by decide +kernel) rfl (fun z => by cases z) (Nat.le_of_ble_eq_true rfl) ?_
  show E_X12_isInstrument l q 0 [(0, iV p0)] [] M 0 0
  refine e_iload_n dX12_isInstrument_0 rfl rfl ?_
  refine e_iconst (v := 0) dX12_isInstrument_1 (by decide) ?_
  refine e_iconst (v := 5) dX12_isInstrument_2 (by decide) ?_
  refine e_callS (As := [iV p0, iV 0, iV 5]) (st := []) mt_X12_in is_X12_in lkX12_155 ⟨by decide, by decide⟩ (Nat.le_of_ble_eq_true rfl) ⟨by decide, by decide⟩ rfl rfl dX12_isInstrument_3 (Ctr.mono h (fun v M1 h => ?_))
  obtain ⟨r2, rfl, h⟩ := h
  show E_X12_isInstrument l q 6 [(0, iV p0)] [iV r2] M1 0 0
  obtain ⟨o3, h⟩ := h
  exact e_iret rfl o3 dX12_isInstrument_6 ⟨_, rfl, h⟩
theorem w_X12_isPlayed (l : Launch) (p1 : Int32) (p2 : Int32) (M : o_M) (q : Int32 → o_M → Prop) (h : (mR M 60 4 = some 65 ∧ (vp_in p1 (mN M 65) ∧ (((mI M 65 p1.toNatClampNeg) = 0 → q 1 M) ∧ (¬ (mI M 65 p1.toNatClampNeg) = 0 → (mR M 60 4 = some 65 ∧ (vp_in p1 (mN M 65) ∧ ((¬ (mI M 65 p1.toNatClampNeg) = 1 → q 0 M) ∧ ((mI M 65 p1.toNatClampNeg) = 1 → (mR M 60 5 = some 66 ∧ (vp_in p1 (mN M 66) ∧ (mR M 60 6 = some 67 ∧ (vp_in p1 (mN M 67) ∧ K_X12_in l [iV p2, iV (mI M 66 p1.toNatClampNeg), iV (mI M 67 p1.toNatClampNeg)] M (fun r12 M11 => ((r12 = 0 → q 0 M11) ∧ (¬ r12 = 0 → q 1 M11)))))))))))))))) : K_X12_isPlayed l [rV (some 60), iV p1, iV p2] M q := by
  refine o_ctr (ini := false) (by decide +kernel) rfl (fun z => by cases z) (Nat.le_of_ble_eq_true rfl) ?_
  show E_X12_isPlayed l q 0 [(0, rV (some 60)), (1, iV p1), (2, iV p2)] [] M 0 0
  refine e_aload_n dX12_isPlayed_0 rfl rfl ?_
  obtain ⟨o1, h⟩ := h
  refine e_gA flX12_19 rfl rfl o1 dX12_isPlayed_1 ?_
  refine e_iload_n dX12_isPlayed_4 rfl rfl ?_
  obtain ⟨o2, h⟩ := h
  refine e_iald rfl o2 dX12_isPlayed_5 ?_
  refine e_if_eq (tgt := 38) dX12_isPlayed_6 (by decide) (fun c3 => ?_) (fun c3 => ?_)
  · replace h := h.1 c3
    refine e_iconst (v := 1) dX12_isPlayed_38 (by decide) ?_
    refine e_goto (tgt := 43) dX12_isPlayed_39 (by decide) ?_
    exact e_iret rfl rb_1 dX12_isPlayed_43 ⟨_, rfl, h⟩
  · replace h := h.2 c3
    refine e_aload_n dX12_isPlayed_9 rfl rfl ?_
    obtain ⟨o4, h⟩ := h
    refine e_gA flX12_19 rfl rfl o4 dX12_isPlayed_10 ?_
    refine e_iload_n dX12_isPlayed_13 rfl rfl ?_
    obtain ⟨o5, h⟩ := h
    refine e_iald rfl o5 dX12_isPlayed_14 ?_
    refine e_iconst (v := 1) dX12_isPlayed_15 (by decide) ?_
    refine e_ic_ne (tgt := 42) dX12_isPlayed_16 (by decide) (fun c6 => ?_) (fun c6 => ?_)
    · replace h := h.1 c6
      refine e_iconst (v := 0) dX12_isPlayed_42 (by decide) ?_
      exact e_iret rfl rb_0 dX12_isPlayed_43 ⟨_, rfl, h⟩
    · replace h := h.2 c6
      refine e_iload_n dX12_isPlayed_19 rfl rfl ?_
      refine e_aload_n dX12_isPlayed_20 rfl rfl ?_
      obtain ⟨o7, h⟩ := h
      refine e_gA flX12_22 rfl rfl o7 dX12_isPlayed_21 ?_
      refine e_iload_n dX12_isPlayed_24 rfl rfl ?_
      obtain ⟨o8, h⟩ := h
      refine e_iald rfl o8 dX12_isPlayed_25 ?_
      refine e_aload_n dX12_isPlayed_26 rfl rfl ?_
      obtain ⟨o9, h⟩ := h
      refine e_gA flX12_25 rfl rfl o9 dX12_isPlayed_27 ?_
      refine e_iload_n dX12_isPlayed_30 rfl rfl ?_
      obtain ⟨o10, h⟩ := h
      refine e_iald rfl o10 dX12_isPlayed_31 ?_
      refine e_callS (As := [iV p2, iV (mI M 66 p1.toNatClampNeg), iV (mI M 67 p1.toNatClampNeg)]) (st := []) mt_X12_in is_X12_in lkX12_155 ⟨by decide, by decide⟩ (Nat.le_of_ble_eq_true rfl) ⟨by decide, by decide⟩ rfl rfl dX12_isPlayed_32 (Ctr.mono h (fun v M11 h => ?_))
      obtain ⟨r12, rfl, h⟩ := h
      show E_X12_isPlayed l q 35 [(0, rV (some 60)), (1, iV p1), (2, iV p2)] [iV r12] M11 0 0
      refine e_if_eq (tgt := 42) dX12_isPlayed_35 (by decide) (fun c13 => ?_) (fun c13 => ?_)
      · replace h := h.1 c13
        refine e_iconst (v := 0) dX12_isPlayed_42 (by decide) ?_
        exact e_iret rfl rb_0 dX12_isPlayed_43 ⟨_, rfl, h⟩
      · replace h := h.2 c13
        refine e_iconst (v := 1) dX12_isPlayed_38 (by decide) ?_
        refine e_goto (tgt := 43) dX12_isPlayed_39 (by decide) ?_
        exact e_iret rfl rb_1 dX12_isPlayed_43 ⟨_, rfl, h⟩
theorem w_X12_isPlayer (l : Launch) (p1 : Int32) (M : o_M) (q : Int32 → o_M → Prop) (h : K_X12_in l [iV p1, iV 0, iV ((mI M 60 7) - 1)] M (fun r2 M1 => (narrow .boolean (.int r2) = .int r2 ∧ q r2 M1))) : K_X12_isPlayer l [rV (some 60), iV p1] M q := by
  refine o_ctr (ini := false) (by decide +kernel) rfl (fun z => by cases z) (Nat.le_of_ble_eq_true rfl) ?_
  show E_X12_isPlayer l q 0 [(0, rV (some 60)), (1, iV p1)] [] M 0 0
  refine e_iload_n dX12_isPlayer_0 rfl rfl ?_
  refine e_iconst (v := 0) dX12_isPlayer_1 (by decide) ?_
  refine e_aload_n dX12_isPlayer_2 rfl rfl ?_
  refine e_gI flX12_159 rfl rfl dX12_isPlayer_3 ?_
  refine e_iconst (v := 1) dX12_isPlayer_6 (by decide) ?_
  refine e_isub dX12_isPlayer_7 ?_
  refine e_callS (As := [iV p1, iV 0, iV ((mI M 60 7) - 1)]) (st := []) mt_X12_in is_X12_in lkX12_155 ⟨by decide, by decide⟩ (Nat.le_of_ble_eq_true rfl) ⟨by decide, by decide⟩ rfl rfl dX12_isPlayer_8 (Ctr.mono h (fun v M1 h => ?_))
  obtain ⟨r2, rfl, h⟩ := h
  show E_X12_isPlayer l q 11 [(0, rV (some 60)), (1, iV p1)] [iV r2] M1 0 0
  obtain ⟨o3, h⟩ := h
  exact e_iret rfl o3 dX12_isPlayer_11 ⟨_, rfl, h⟩
theorem w_X12_isService (l : Launch) (p1 : Int32) (M : o_M) (q : Int32 → o_M → Prop) (h : K_X12_in l [iV p1, iV 0, iV ((mI M 60 14) - 1)] M (fun r2 M1 => (narrow .boolean (.int r2) = .int r2 ∧ q r2 M1))) : K_X12_isService l [rV (some 60), iV p1] M q := by
  refine o_ctr (ini := false) (by decide +kernel) rfl (fun z => by cases z) (Nat.le_of_ble_eq_true rfl) ?_
  show E_X12_isService l q 0 [(0, rV (some 60)), (1, iV p1)] [] M 0 0
  refine e_iload_n dX12_isService_0 rfl rfl ?_
  refine e_iconst (v := 0) dX12_isService_1 (by decide) ?_
  refine e_aload_n dX12_isService_2 rfl rfl ?_
  refine e_gI flX12_162 rfl rfl dX12_isService_3 ?_
  refine e_iconst (v := 1) dX12_isService_6 (by decide) ?_
  refine e_isub dX12_isService_7 ?_
  refine e_callS (As := [iV p1, iV 0, iV ((mI M 60 14) - 1)]) (st := []) mt_X12_in is_X12_in lkX12_155 ⟨by decide, by decide⟩ (Nat.le_of_ble_eq_true rfl) ⟨by decide, by decide⟩ rfl rfl dX12_isService_8 (Ctr.mono h (fun v M1 h => ?_))
  obtain ⟨r2, rfl, h⟩ := h
  show E_X12_isService l q 11 [(0, rV (some 60)), (1, iV p1)] [iV r2] M1 0 0
  obtain ⟨o3, h⟩ := h
  exact e_iret rfl o3 dX12_isService_11 ⟨_, rfl, h⟩
theorem w_X12_isWork (l : Launch) (p1 : Int32) (M : o_M) (q : Int32 → o_M → Prop) (h : K_X12_in l [iV p1, iV 0, iV ((mI M 60 0) - 1)] M (fun r2 M1 => (narrow .boolean (.int r2) = .int r2 ∧ q r2 M1))) : K_X12_isWork l [rV (some 60), iV p1] M q := by
  refine o_ctr (ini := false) (by decide +kernel) rfl (fun z => by cases z) (Nat.le_of_ble_eq_true rfl) ?_
  show E_X12_isWork l q 0 [(0, rV (some 60)), (1, iV p1)] [] M 0 0
  refine e_iload_n dX12_isWork_0 rfl rfl ?_
  refine e_iconst (v := 0) dX12_isWork_1 (by decide) ?_
  refine e_aload_n dX12_isWork_2 rfl rfl ?_
  refine e_gI flX12_152 rfl rfl dX12_isWork_3 ?_
  refine e_iconst (v := 1) dX12_isWork_6 (by decide) ?_
  refine e_isub dX12_isWork_7 ?_
  refine e_callS (As := [iV p1, iV 0, iV ((mI M 60 0) - 1)]) (st := []) mt_X12_in is_X12_in lkX12_155 ⟨by decide, by decide⟩ (Nat.le_of_ble_eq_true rfl) ⟨by decide, by decide⟩ rfl rfl dX12_isWork_8 (Ctr.mono h (fun v M1 h => ?_))
  obtain ⟨r2, rfl, h⟩ := h
  show E_X12_isWork l q 11 [(0, rV (some 60)), (1, iV p1)] [iV r2] M1 0 0
  obtain ⟨o3, h⟩ := h
  exact e_iret rfl o3 dX12_isWork_11 ⟨_, rfl, h⟩
abbrev H_X12_need_20 (l : Launch) (q : Int32 → o_M → Prop) (v1 : Int32) (v2 : Int32) (v4 : Int32) (v5 : Int32) (M : o_M) : Prop := E_X12_need l q 20 [(0, rV (some 60)), (1, iV v1), (2, iV v2), (4, iV v4), (5, iV v5)] [] M 0 0
theorem w_X12_need (l : Launch) (p1 : Int32) (p2 : Int32) (p3 : Int32) (M : o_M) (q : Int32 → o_M → Prop) (h : ((¬ p3 = (-1) → K_X12_needOf l [rV (some 60), iV p3, iV p2] M (fun r3 M2 => H_X12_need_20 l q p1 p2 r3 0 M2)) ∧ (p3 = (-1) → H_X12_need_20 l q p1 p2 0 0 M))) : K_X12_need l [rV (some 60), iV p1, iV p2, iV p3] M q := by
  refine o_ctr (ini := false) (by decide +kernel) rfl (fun z => by cases z) (Nat.le_of_ble_eq_true rfl) ?_
  show E_X12_need l q 0 [(0, rV (some 60)), (1, iV p1), (2, iV p2), (3, iV p3)] [] M 0 0
  refine e_iload_n dX12_need_0 rfl rfl ?_
  refine e_iconst (v := (-1)) dX12_need_1 (by decide) ?_
  refine e_ic_ne (tgt := 9) dX12_need_2 (by decide) (fun c1 => ?_) (fun c1 => ?_)
  · replace h := h.1 c1
    refine e_aload_n dX12_need_9 rfl rfl ?_
    refine e_iload_n dX12_need_10 rfl rfl ?_
    refine e_iload_n dX12_need_11 rfl rfl ?_
    refine e_callV (As := [iV p3, iV p2]) (st := []) mt_X12_needOf in_X12_needOf lkX12_186 rfl rfl ⟨by decide, by decide⟩ (Nat.le_of_ble_eq_true rfl) ⟨by decide, by decide⟩ rfl rfl dX12_need_12 (Ctr.mono h (fun v M2 h => ?_))
    obtain ⟨r3, rfl, h⟩ := h
    show E_X12_need l q 15 [(0, rV (some 60)), (1, iV p1), (2, iV p2), (3, iV p3)] [iV r3] M2 0 0
    refine e_istore (lv' := [(4, iV r3), (0, rV (some 60)), (1, iV p1), (2, iV p2), (3, iV p3)]) (by decide) rfl dX12_need_15 ?_
    refine e_iconst (v := 0) dX12_need_17 (by decide) ?_
    refine e_istore (lv' := [(5, iV 0), (4, iV r3), (0, rV (some 60)), (1, iV p1), (2, iV p2), (3, iV p3)]) (by decide) rfl dX12_need_18 ?_
    exact e_lv (List.forall_mem_cons.mpr ⟨rfl, List.forall_mem_cons.mpr ⟨rfl, List.forall_mem_cons.mpr ⟨rfl, List.forall_mem_cons.mpr ⟨rfl, List.forall_mem_cons.mpr ⟨rfl, fun _ h => absurd h List.not_mem_nil⟩⟩⟩⟩⟩) h
  · replace h := h.2 c1
    refine e_iconst (v := 0) dX12_need_5 (by decide) ?_
    refine e_goto (tgt := 15) dX12_need_6 (by decide) ?_
    refine e_istore (lv' := [(4, iV 0), (0, rV (some 60)), (1, iV p1), (2, iV p2), (3, iV p3)]) (by decide) rfl dX12_need_15 ?_
    refine e_iconst (v := 0) dX12_need_17 (by decide) ?_
    refine e_istore (lv' := [(5, iV 0), (4, iV 0), (0, rV (some 60)), (1, iV p1), (2, iV p2), (3, iV p3)]) (by decide) rfl dX12_need_18 ?_
    exact e_lv (List.forall_mem_cons.mpr ⟨rfl, List.forall_mem_cons.mpr ⟨rfl, List.forall_mem_cons.mpr ⟨rfl, List.forall_mem_cons.mpr ⟨rfl, List.forall_mem_cons.mpr ⟨rfl, fun _ h => absurd h List.not_mem_nil⟩⟩⟩⟩⟩) h
theorem w_X12_need_20 (l : Launch) (q : Int32 → o_M → Prop) (v1 : Int32) (v2 : Int32) (v4 : Int32) (v5 : Int32) (M : o_M) (h : (mR M 60 19 = some 80 ∧ (vp_in v1 (mN M 80) ∧ (((mI M 80 v1.toNatClampNeg) ≤ v5 → (mR M 60 15 = some 76 ∧ (vp_in v1 (mN M 76) ∧ ((¬ (mI M 76 v1.toNatClampNeg) = 4 → q v4 M) ∧ ((mI M 76 v1.toNatClampNeg) = 4 → ((v4 ≤ 1 → q v4 M) ∧ (¬ v4 ≤ 1 → q 1 M))))))) ∧ (¬ (mI M 80 v1.toNatClampNeg) ≤ v5 → (mR M 60 20 = some 81 ∧ (vp_in ((5 * v1) + v5) (mN M 81) ∧ K_X12_needOf l [rV (some 60), iV (mI M 81 ((5 * v1) + v5).toNatClampNeg), iV v2] M (fun r14 M13 => ((r14 ≤ v4 → H_X12_need_20 l q v1 v2 v4 (v5 + 1) M13) ∧ (¬ r14 ≤ v4 → (mR M13 60 20 = some 81 ∧ (vp_in ((5 * v1) + v5) (mN M13 81) ∧ K_X12_needOf l [rV (some 60), iV (mI M13 81 ((5 * v1) + v5).toNatClampNeg), iV v2] M13 (fun r19 M18 => H_X12_need_20 l q v1 v2 r19 (v5 + 1) M18))))))))))))) : H_X12_need_20 l q v1 v2 v4 v5 M := by
  refine e_iload rfl dX12_need_20 ?_
  refine e_aload_n dX12_need_22 rfl rfl ?_
  obtain ⟨o4, h⟩ := h
  refine e_gA flX12_58 rfl rfl o4 dX12_need_23 ?_
  refine e_iload_n dX12_need_26 rfl rfl ?_
  obtain ⟨o5, h⟩ := h
  refine e_iald rfl o5 dX12_need_27 ?_
  refine e_ic_ge (tgt := 81) dX12_need_28 (by decide) (fun c6 => ?_) (fun c6 => ?_)
  · replace h := h.1 c6
    refine e_aload_n dX12_need_81 rfl rfl ?_
    obtain ⟨o7, h⟩ := h
    refine e_gA flX12_46 rfl rfl o7 dX12_need_82 ?_
    refine e_iload_n dX12_need_85 rfl rfl ?_
    obtain ⟨o8, h⟩ := h
    refine e_iald rfl o8 dX12_need_86 ?_
    refine e_iconst (v := 4) dX12_need_87 (by decide) ?_
    refine e_ic_ne (tgt := 101) dX12_need_88 (by decide) (fun c9 => ?_) (fun c9 => ?_)
    · replace h := h.1 c9
      refine e_iload rfl dX12_need_101 ?_
      exact e_iret rfl trivial dX12_need_103 ⟨_, rfl, h⟩
    · replace h := h.2 c9
      refine e_iload rfl dX12_need_91 ?_
      refine e_iconst (v := 1) dX12_need_93 (by decide) ?_
      refine e_ic_le (tgt := 101) dX12_need_94 (by decide) (fun c10 => ?_) (fun c10 => ?_)
      · replace h := h.1 c10
        refine e_iload rfl dX12_need_101 ?_
        exact e_iret rfl trivial dX12_need_103 ⟨_, rfl, h⟩
      · replace h := h.2 c10
        refine e_iconst (v := 1) dX12_need_97 (by decide) ?_
        refine e_goto (tgt := 103) dX12_need_98 (by decide) ?_
        exact e_iret rfl trivial dX12_need_103 ⟨_, rfl, h⟩
  · replace h := h.2 c6
    refine e_aload_n dX12_need_31 rfl rfl ?_
    refine e_aload_n dX12_need_32 rfl rfl ?_
    obtain ⟨o11, h⟩ := h
    refine e_gA flX12_61 rfl rfl o11 dX12_need_33 ?_
    refine e_iconst (v := 5) dX12_need_36 (by decide) ?_
    refine e_iload_n dX12_need_37 rfl rfl ?_
    refine e_imul dX12_need_38 ?_
    refine e_iload rfl dX12_need_39 ?_
    refine e_iadd dX12_need_41 ?_
    obtain ⟨o12, h⟩ := h
    refine e_iald rfl o12 dX12_need_42 ?_
    refine e_iload_n dX12_need_43 rfl rfl ?_
    refine e_callV (As := [iV (mI M 81 ((5 * v1) + v5).toNatClampNeg), iV v2]) (st := []) mt_X12_needOf in_X12_needOf lkX12_186 rfl rfl ⟨by decide, by decide⟩ (Nat.le_of_ble_eq_true rfl) ⟨by decide, by decide⟩ rfl rfl dX12_need_44 (Ctr.mono h (fun v M13 h => ?_))
    obtain ⟨r14, rfl, h⟩ := h
    show E_X12_need l q 47 [(0, rV (some 60)), (1, iV v1), (2, iV v2), (4, iV v4), (5, iV v5)] [iV r14] M13 0 0
    refine e_iload rfl dX12_need_47 ?_
    refine e_ic_le (tgt := 71) dX12_need_49 (by decide) (fun c15 => ?_) (fun c15 => ?_)
    · replace h := h.1 c15
      refine e_iload rfl dX12_need_71 ?_
      refine e_istore (lv' := [(4, iV v4), (0, rV (some 60)), (1, iV v1), (2, iV v2), (5, iV v5)]) (by decide) rfl dX12_need_73 ?_
      refine e_iinc (v := 1) (lv' := [(5, iV (v5 + 1)), (4, iV v4), (0, rV (some 60)), (1, iV v1), (2, iV v2)]) rfl (by decide) (by decide) rfl dX12_need_75 ?_
      refine e_goto (tgt := 20) dX12_need_78 (by decide) ?_
      exact e_lv (List.forall_mem_cons.mpr ⟨rfl, List.forall_mem_cons.mpr ⟨rfl, List.forall_mem_cons.mpr ⟨rfl, List.forall_mem_cons.mpr ⟨rfl, List.forall_mem_cons.mpr ⟨rfl, fun _ h => absurd h List.not_mem_nil⟩⟩⟩⟩⟩) h
    · replace h := h.2 c15
      refine e_aload_n dX12_need_52 rfl rfl ?_
      refine e_aload_n dX12_need_53 rfl rfl ?_
      obtain ⟨o16, h⟩ := h
      refine e_gA flX12_61 rfl rfl o16 dX12_need_54 ?_
      refine e_iconst (v := 5) dX12_need_57 (by decide) ?_
      refine e_iload_n dX12_need_58 rfl rfl ?_
      refine e_imul dX12_need_59 ?_
      refine e_iload rfl dX12_need_60 ?_
      refine e_iadd dX12_need_62 ?_
      obtain ⟨o17, h⟩ := h
      refine e_iald rfl o17 dX12_need_63 ?_
      refine e_iload_n dX12_need_64 rfl rfl ?_
      refine e_callV (As := [iV (mI M13 81 ((5 * v1) + v5).toNatClampNeg), iV v2]) (st := []) mt_X12_needOf in_X12_needOf lkX12_186 rfl rfl ⟨by decide, by decide⟩ (Nat.le_of_ble_eq_true rfl) ⟨by decide, by decide⟩ rfl rfl dX12_need_65 (Ctr.mono h (fun v M18 h => ?_))
      obtain ⟨r19, rfl, h⟩ := h
      show E_X12_need l q 68 [(0, rV (some 60)), (1, iV v1), (2, iV v2), (4, iV v4), (5, iV v5)] [iV r19] M18 0 0
      refine e_goto (tgt := 73) dX12_need_68 (by decide) ?_
      refine e_istore (lv' := [(4, iV r19), (0, rV (some 60)), (1, iV v1), (2, iV v2), (5, iV v5)]) (by decide) rfl dX12_need_73 ?_
      refine e_iinc (v := 1) (lv' := [(5, iV (v5 + 1)), (4, iV r19), (0, rV (some 60)), (1, iV v1), (2, iV v2)]) rfl (by decide) (by decide) rfl dX12_need_75 ?_
      refine e_goto (tgt := 20) dX12_need_78 (by decide) ?_
      exact e_lv (List.forall_mem_cons.mpr ⟨rfl, List.forall_mem_cons.mpr ⟨rfl, List.forall_mem_cons.mpr ⟨rfl, List.forall_mem_cons.mpr ⟨rfl, List.forall_mem_cons.mpr ⟨rfl, fun _ h => absurd h List.not_mem_nil⟩⟩⟩⟩⟩) h
abbrev H_X12_number_5 (l : Launch) (q : o_M → Prop) (M : o_M) : Prop := E_X12_number l q 5 [(0, rV (some 60))] [] M 0 0
theorem w_X12_number (l : Launch) (M : o_M) (q : o_M → Prop) (h : H_X12_number_5 l q (sI M 60 46 0)) : K_X12_number l [rV (some 60)] M q := by
  refine o_ctr (ini := false) (by decide +kernel) rfl (fun z => by cases z) (Nat.le_of_ble_eq_true rfl) ?_
  show E_X12_number l q 0 [(0, rV (some 60))] [] M 0 0
  refine e_aload_n dX12_number_0 rfl rfl ?_
  refine e_iconst (v := 0) dX12_number_1 (by decide) ?_
  refine e_pI flX12_230 rfl (Or.inl rfl) rfl rfl rfl dX12_number_2 ?_
  exact e_lv (List.forall_mem_cons.mpr ⟨rfl, fun _ h => absurd h List.not_mem_nil⟩) h
theorem w_X12_number_5 (l : Launch) (q : o_M → Prop) (M : o_M) (h : K_X12_byteAt l [rV (some 60), iV (mI M 60 43)] M (fun r2 M1 => K_X12_isDigit l [iV r2] M1 (fun r4 M3 => ((r4 = 0 → ((((mI M3 60 43) - (mI M3 60 44)) ≤ 5 → q (sI M3 60 45 1)) ∧ (¬ ((mI M3 60 43) - (mI M3 60 44)) ≤ 5 → q (sI M3 60 45 2)))) ∧ (¬ r4 = 0 → ((5 ≤ ((mI M3 60 43) - (mI M3 60 44)) → H_X12_number_5 l q (sI (sI M3 60 46 (mI M3 60 46)) 60 43 ((mI (sI M3 60 46 (mI M3 60 46)) 60 43) + 1))) ∧ (¬ 5 ≤ ((mI M3 60 43) - (mI M3 60 44)) → K_X12_byteAt l [rV (some 60), iV (mI M3 60 43)] M3 (fun r9 M8 => H_X12_number_5 l q (sI (sI M8 60 46 (((10 * (mI M3 60 46)) + r9) - 48)) 60 43 ((mI (sI M8 60 46 (((10 * (mI M3 60 46)) + r9) - 48)) 60 43) + 1)))))))))) : H_X12_number_5 l q M := by
  refine e_aload_n dX12_number_5 rfl rfl ?_
  refine e_aload_n dX12_number_6 rfl rfl ?_
  refine e_gI flX12_206 rfl rfl dX12_number_7 ?_
  refine e_callV (As := [iV (mI M 60 43)]) (st := []) mt_X12_byteAt in_X12_byteAt lkX12_209 rfl rfl ⟨by decide, by decide⟩ (Nat.le_of_ble_eq_true rfl) ⟨by decide, by decide⟩ rfl rfl dX12_number_10 (Ctr.mono h (fun v M1 h => ?_))
  obtain ⟨r2, rfl, h⟩ := h
  show E_X12_number l q 13 [(0, rV (some 60))] [iV r2] M1 0 0
  refine e_callS (As := [iV r2]) (st := []) mt_X12_isDigit is_X12_isDigit lkX12_224 ⟨by decide, by decide⟩ (Nat.le_of_ble_eq_true rfl) ⟨by decide, by decide⟩ rfl rfl dX12_number_13 (Ctr.mono h (fun v M3 h => ?_))
  obtain ⟨r4, rfl, h⟩ := h
  show E_X12_number l q 16 [(0, rV (some 60))] [iV r4] M3 0 0
  refine e_if_eq (tgt := 75) dX12_number_16 (by decide) (fun c5 => ?_) (fun c5 => ?_)
  · replace h := h.1 c5
    refine e_aload_n dX12_number_75 rfl rfl ?_
    refine e_aload_n dX12_number_76 rfl rfl ?_
    refine e_gI flX12_206 rfl rfl dX12_number_77 ?_
    refine e_aload_n dX12_number_80 rfl rfl ?_
    refine e_gI flX12_212 rfl rfl dX12_number_81 ?_
    refine e_isub dX12_number_84 ?_
    refine e_iconst (v := 5) dX12_number_85 (by decide) ?_
    refine e_ic_le (tgt := 93) dX12_number_86 (by decide) (fun c6 => ?_) (fun c6 => ?_)
    · replace h := h.1 c6
      refine e_iconst (v := 1) dX12_number_93 (by decide) ?_
      refine e_pI flX12_215 rfl (Or.inl rfl) rfl rfl rfl dX12_number_94 ?_
      exact e_ret rfl dX12_number_97 ⟨rfl, h⟩
    · replace h := h.2 c6
      refine e_iconst (v := 2) dX12_number_89 (by decide) ?_
      refine e_goto (tgt := 94) dX12_number_90 (by decide) ?_
      refine e_pI flX12_215 rfl (Or.inl rfl) rfl rfl rfl dX12_number_94 ?_
      exact e_ret rfl dX12_number_97 ⟨rfl, h⟩
  · replace h := h.2 c5
    refine e_aload_n dX12_number_19 rfl rfl ?_
    refine e_aload_n dX12_number_20 rfl rfl ?_
    refine e_gI flX12_206 rfl rfl dX12_number_21 ?_
    refine e_aload_n dX12_number_24 rfl rfl ?_
    refine e_gI flX12_212 rfl rfl dX12_number_25 ?_
    refine e_isub dX12_number_28 ?_
    refine e_iconst (v := 5) dX12_number_29 (by decide) ?_
    refine e_ic_ge (tgt := 55) dX12_number_30 (by decide) (fun c7 => ?_) (fun c7 => ?_)
    · replace h := h.1 c7
      refine e_aload_n dX12_number_55 rfl rfl ?_
      refine e_gI flX12_230 rfl rfl dX12_number_56 ?_
      refine e_pI flX12_230 rfl (Or.inl rfl) rfl rfl rfl dX12_number_59 ?_
      refine e_aload_n dX12_number_62 rfl rfl ?_
      refine e_dup rfl dX12_number_63 ?_
      refine e_gI flX12_206 rfl rfl dX12_number_64 ?_
      refine e_iconst (v := 1) dX12_number_67 (by decide) ?_
      refine e_iadd dX12_number_68 ?_
      refine e_pI flX12_206 rfl (Or.inl rfl) rfl rfl rfl dX12_number_69 ?_
      refine e_goto (tgt := 5) dX12_number_72 (by decide) ?_
      exact e_lv (List.forall_mem_cons.mpr ⟨rfl, fun _ h => absurd h List.not_mem_nil⟩) h
    · replace h := h.2 c7
      refine e_bipush (v := 10) dX12_number_33 (by decide) ?_
      refine e_aload_n dX12_number_35 rfl rfl ?_
      refine e_gI flX12_230 rfl rfl dX12_number_36 ?_
      refine e_imul dX12_number_39 ?_
      refine e_aload_n dX12_number_40 rfl rfl ?_
      refine e_aload_n dX12_number_41 rfl rfl ?_
      refine e_gI flX12_206 rfl rfl dX12_number_42 ?_
      refine e_callV (As := [iV (mI M3 60 43)]) (st := [iV (10 * (mI M3 60 46)), rV (some 60)]) mt_X12_byteAt in_X12_byteAt lkX12_209 rfl rfl ⟨by decide, by decide⟩ (Nat.le_of_ble_eq_true rfl) ⟨by decide, by decide⟩ rfl rfl dX12_number_45 (Ctr.mono h (fun v M8 h => ?_))
      obtain ⟨r9, rfl, h⟩ := h
      show E_X12_number l q 48 [(0, rV (some 60))] [iV r9, iV (10 * (mI M3 60 46)), rV (some 60)] M8 0 0
      refine e_iadd dX12_number_48 ?_
      refine e_bipush (v := 48) dX12_number_49 (by decide) ?_
      refine e_isub dX12_number_51 ?_
      refine e_goto (tgt := 59) dX12_number_52 (by decide) ?_
      refine e_pI flX12_230 rfl (Or.inl rfl) rfl rfl rfl dX12_number_59 ?_
      refine e_aload_n dX12_number_62 rfl rfl ?_
      refine e_dup rfl dX12_number_63 ?_
      refine e_gI flX12_206 rfl rfl dX12_number_64 ?_
      refine e_iconst (v := 1) dX12_number_67 (by decide) ?_
      refine e_iadd dX12_number_68 ?_
      refine e_pI flX12_206 rfl (Or.inl rfl) rfl rfl rfl dX12_number_69 ?_
      refine e_goto (tgt := 5) dX12_number_72 (by decide) ?_
      exact e_lv (List.forall_mem_cons.mpr ⟨rfl, fun _ h => absurd h List.not_mem_nil⟩) h
theorem w_X12_price (l : Launch) (p1 : Int32) (M : o_M) (q : Int32 → o_M → Prop) (h : K_X12_in l [iV p1, iV 0, iV (((1 : Int32) <<< ((mI M 60 0) &&& 31)) - 1)] M (fun r2 M1 => ((r2 = 0 → q (-2) M1) ∧ (¬ r2 = 0 → K_X12_priceOf l [rV (some 60), iV p1] M1 (fun r5 M4 => q r5 M4))))) : K_X12_price l [rV (some 60), iV p1] M q := by
  refine o_ctr (ini := false) (by decide +kernel) rfl (fun z => by cases z) (Nat.le_of_ble_eq_true rfl) ?_
  show E_X12_price l q 0 [(0, rV (some 60)), (1, iV p1)] [] M 0 0
  refine e_iload_n dX12_price_0 rfl rfl ?_
  refine e_iconst (v := 0) dX12_price_1 (by decide) ?_
  refine e_iconst (v := 1) dX12_price_2 (by decide) ?_
  refine e_aload_n dX12_price_3 rfl rfl ?_
  refine e_gI flX12_152 rfl rfl dX12_price_4 ?_
  refine e_ishl dX12_price_7 ?_
  refine e_iconst (v := 1) dX12_price_8 (by decide) ?_
  refine e_isub dX12_price_9 ?_
  refine e_callS (As := [iV p1, iV 0, iV (((1 : Int32) <<< ((mI M 60 0) &&& 31)) - 1)]) (st := []) mt_X12_in is_X12_in lkX12_155 ⟨by decide, by decide⟩ (Nat.le_of_ble_eq_true rfl) ⟨by decide, by decide⟩ rfl rfl dX12_price_10 (Ctr.mono h (fun v M1 h => ?_))
  obtain ⟨r2, rfl, h⟩ := h
  show E_X12_price l q 13 [(0, rV (some 60)), (1, iV p1)] [iV r2] M1 0 0
  refine e_if_eq (tgt := 24) dX12_price_13 (by decide) (fun c3 => ?_) (fun c3 => ?_)
  · replace h := h.1 c3
    refine e_bipush (v := (-2)) dX12_price_24 (by decide) ?_
    exact e_iret rfl trivial dX12_price_26 ⟨_, rfl, h⟩
  · replace h := h.2 c3
    refine e_aload_n dX12_price_16 rfl rfl ?_
    refine e_iload_n dX12_price_17 rfl rfl ?_
    refine e_callV (As := [iV p1]) (st := []) mt_X12_priceOf in_X12_priceOf lkX12_354 rfl rfl ⟨by decide, by decide⟩ (Nat.le_of_ble_eq_true rfl) ⟨by decide, by decide⟩ rfl rfl dX12_price_18 (Ctr.mono h (fun v M4 h => ?_))
    obtain ⟨r5, rfl, h⟩ := h
    show E_X12_price l q 21 [(0, rV (some 60)), (1, iV p1)] [iV r5] M4 0 0
    refine e_goto (tgt := 26) dX12_price_21 (by decide) ?_
    exact e_iret rfl trivial dX12_price_26 ⟨_, rfl, h⟩
abbrev H_X12_week_5 (l : Launch) (q : Int32 → o_M → Prop) (v1 : Int32) (v2 : Int32) (v3 : Int32) (v4 : Int32) (M : o_M) : Prop := E_X12_week l q 5 [(0, rV (some 60)), (1, iV v1), (2, iV v2), (3, iV v3), (4, iV v4)] [] M 0 0
theorem w_X12_week (l : Launch) (p1 : Int32) (p2 : Int32) (M : o_M) (q : Int32 → o_M → Prop) (h : H_X12_week_5 l q p1 p2 0 0 M) : K_X12_week l [rV (some 60), iV p1, iV p2] M q := by
  refine o_ctr (ini := false) (by decide +kernel) rfl (fun z => by cases z) (Nat.le_of_ble_eq_true rfl) ?_
  show E_X12_week l q 0 [(0, rV (some 60)), (1, iV p1), (2, iV p2)] [] M 0 0
  refine e_iconst (v := 0) dX12_week_0 (by decide) ?_
  refine e_istore_n (lv' := [(3, iV 0), (0, rV (some 60)), (1, iV p1), (2, iV p2)]) dX12_week_1 rfl (by decide) rfl ?_
  refine e_iconst (v := 0) dX12_week_2 (by decide) ?_
  refine e_istore (lv' := [(4, iV 0), (3, iV 0), (0, rV (some 60)), (1, iV p1), (2, iV p2)]) (by decide) rfl dX12_week_3 ?_
  exact e_lv (List.forall_mem_cons.mpr ⟨rfl, List.forall_mem_cons.mpr ⟨rfl, List.forall_mem_cons.mpr ⟨rfl, List.forall_mem_cons.mpr ⟨rfl, List.forall_mem_cons.mpr ⟨rfl, fun _ h => absurd h List.not_mem_nil⟩⟩⟩⟩⟩) h
theorem w_X12_week_5 (l : Launch) (q : Int32 → o_M → Prop) (v1 : Int32) (v2 : Int32) (v3 : Int32) (v4 : Int32) (M : o_M) (h : (((mI M 60 14) ≤ v4 → q v3 M) ∧ (¬ (mI M 60 14) ≤ v4 → ((v4 = v1 → H_X12_week_5 l q v1 v2 (v3 + 0) (v4 + 1) M) ∧ (¬ v4 = v1 → (mR M 60 16 = some 77 ∧ (vp_in v4 (mN M 77) ∧ (mR M 60 16 = some 77 ∧ (vp_in v1 (mN M 77) ∧ ((¬ ((mI M 77 v4.toNatClampNeg) / 7) = ((mI M 77 v1.toNatClampNeg) / 7) → H_X12_week_5 l q v1 v2 (v3 + 0) (v4 + 1) M) ∧ (((mI M 77 v4.toNatClampNeg) / 7) = ((mI M 77 v1.toNatClampNeg) / 7) → K_X12_chairOf l [rV (some 60), iV v4, iV v2] M (fun r9 M8 => ((r9 = (-1) → H_X12_week_5 l q v1 v2 (v3 + 0) (v4 + 1) M8) ∧ (¬ r9 = (-1) → (mR M8 60 18 = some 79 ∧ (vp_in v4 (mN M8 79) ∧ H_X12_week_5 l q v1 v2 (v3 + (mI M8 79 v4.toNatClampNeg)) (v4 + 1) M8)))))))))))))))) : H_X12_week_5 l q v1 v2 v3 v4 M := by
  refine e_iload rfl dX12_week_5 ?_
  refine e_aload_n dX12_week_7 rfl rfl ?_
  refine e_gI flX12_162 rfl rfl dX12_week_8 ?_
  refine e_ic_ge (tgt := 73) dX12_week_11 (by decide) (fun c1 => ?_) (fun c1 => ?_)
  · replace h := h.1 c1
    refine e_iload_n dX12_week_73 rfl rfl ?_
    exact e_iret rfl trivial dX12_week_74 ⟨_, rfl, h⟩
  · replace h := h.2 c1
    refine e_iload_n dX12_week_14 rfl rfl ?_
    refine e_iload rfl dX12_week_15 ?_
    refine e_iload_n dX12_week_17 rfl rfl ?_
    refine e_ic_eq (tgt := 64) dX12_week_18 (by decide) (fun c2 => ?_) (fun c2 => ?_)
    · replace h := h.1 c2
      refine e_iconst (v := 0) dX12_week_64 (by decide) ?_
      refine e_iadd dX12_week_65 ?_
      refine e_istore_n (lv' := [(3, iV (v3 + 0)), (0, rV (some 60)), (1, iV v1), (2, iV v2), (4, iV v4)]) dX12_week_66 rfl (by decide) rfl ?_
      refine e_iinc (v := 1) (lv' := [(4, iV (v4 + 1)), (3, iV (v3 + 0)), (0, rV (some 60)), (1, iV v1), (2, iV v2)]) rfl (by decide) (by decide) rfl dX12_week_67 ?_
      refine e_goto (tgt := 5) dX12_week_70 (by decide) ?_
      exact e_lv (List.forall_mem_cons.mpr ⟨rfl, List.forall_mem_cons.mpr ⟨rfl, List.forall_mem_cons.mpr ⟨rfl, List.forall_mem_cons.mpr ⟨rfl, List.forall_mem_cons.mpr ⟨rfl, fun _ h => absurd h List.not_mem_nil⟩⟩⟩⟩⟩) h
    · replace h := h.2 c2
      refine e_aload_n dX12_week_21 rfl rfl ?_
      obtain ⟨o3, h⟩ := h
      refine e_gA flX12_49 rfl rfl o3 dX12_week_22 ?_
      refine e_iload rfl dX12_week_25 ?_
      obtain ⟨o4, h⟩ := h
      refine e_iald rfl o4 dX12_week_27 ?_
      refine e_bipush (v := 7) dX12_week_28 (by decide) ?_
      refine e_idiv dX12_week_30 (by decide) ?_
      refine e_aload_n dX12_week_31 rfl rfl ?_
      obtain ⟨o5, h⟩ := h
      refine e_gA flX12_49 rfl rfl o5 dX12_week_32 ?_
      refine e_iload_n dX12_week_35 rfl rfl ?_
      obtain ⟨o6, h⟩ := h
      refine e_iald rfl o6 dX12_week_36 ?_
      refine e_bipush (v := 7) dX12_week_37 (by decide) ?_
      refine e_idiv dX12_week_39 (by decide) ?_
      refine e_ic_ne (tgt := 64) dX12_week_40 (by decide) (fun c7 => ?_) (fun c7 => ?_)
      · replace h := h.1 c7
        refine e_iconst (v := 0) dX12_week_64 (by decide) ?_
        refine e_iadd dX12_week_65 ?_
        refine e_istore_n (lv' := [(3, iV (v3 + 0)), (0, rV (some 60)), (1, iV v1), (2, iV v2), (4, iV v4)]) dX12_week_66 rfl (by decide) rfl ?_
        refine e_iinc (v := 1) (lv' := [(4, iV (v4 + 1)), (3, iV (v3 + 0)), (0, rV (some 60)), (1, iV v1), (2, iV v2)]) rfl (by decide) (by decide) rfl dX12_week_67 ?_
        refine e_goto (tgt := 5) dX12_week_70 (by decide) ?_
        exact e_lv (List.forall_mem_cons.mpr ⟨rfl, List.forall_mem_cons.mpr ⟨rfl, List.forall_mem_cons.mpr ⟨rfl, List.forall_mem_cons.mpr ⟨rfl, List.forall_mem_cons.mpr ⟨rfl, fun _ h => absurd h List.not_mem_nil⟩⟩⟩⟩⟩) h
      · replace h := h.2 c7
        refine e_aload_n dX12_week_43 rfl rfl ?_
        refine e_iload rfl dX12_week_44 ?_
        refine e_iload_n dX12_week_46 rfl rfl ?_
        refine e_callV (As := [iV v4, iV v2]) (st := [iV v3]) mt_X12_chairOf in_X12_chairOf lkX12_182 rfl rfl ⟨by decide, by decide⟩ (Nat.le_of_ble_eq_true rfl) ⟨by decide, by decide⟩ rfl rfl dX12_week_47 (Ctr.mono h (fun v M8 h => ?_))
        obtain ⟨r9, rfl, h⟩ := h
        show E_X12_week l q 50 [(0, rV (some 60)), (1, iV v1), (2, iV v2), (3, iV v3), (4, iV v4)] [iV r9, iV v3] M8 0 0
        refine e_iconst (v := (-1)) dX12_week_50 (by decide) ?_
        refine e_ic_eq (tgt := 64) dX12_week_51 (by decide) (fun c10 => ?_) (fun c10 => ?_)
        · replace h := h.1 c10
          refine e_iconst (v := 0) dX12_week_64 (by decide) ?_
          refine e_iadd dX12_week_65 ?_
          refine e_istore_n (lv' := [(3, iV (v3 + 0)), (0, rV (some 60)), (1, iV v1), (2, iV v2), (4, iV v4)]) dX12_week_66 rfl (by decide) rfl ?_
          refine e_iinc (v := 1) (lv' := [(4, iV (v4 + 1)), (3, iV (v3 + 0)), (0, rV (some 60)), (1, iV v1), (2, iV v2)]) rfl (by decide) (by decide) rfl dX12_week_67 ?_
          refine e_goto (tgt := 5) dX12_week_70 (by decide) ?_
          exact e_lv (List.forall_mem_cons.mpr ⟨rfl, List.forall_mem_cons.mpr ⟨rfl, List.forall_mem_cons.mpr ⟨rfl, List.forall_mem_cons.mpr ⟨rfl, List.forall_mem_cons.mpr ⟨rfl, fun _ h => absurd h List.not_mem_nil⟩⟩⟩⟩⟩) h
        · replace h := h.2 c10
          refine e_aload_n dX12_week_54 rfl rfl ?_
          obtain ⟨o11, h⟩ := h
          refine e_gA flX12_55 rfl rfl o11 dX12_week_55 ?_
          refine e_iload rfl dX12_week_58 ?_
          obtain ⟨o12, h⟩ := h
          refine e_iald rfl o12 dX12_week_60 ?_
          refine e_goto (tgt := 65) dX12_week_61 (by decide) ?_
          refine e_iadd dX12_week_65 ?_
          refine e_istore_n (lv' := [(3, iV (v3 + (mI M8 79 v4.toNatClampNeg))), (0, rV (some 60)), (1, iV v1), (2, iV v2), (4, iV v4)]) dX12_week_66 rfl (by decide) rfl ?_
          refine e_iinc (v := 1) (lv' := [(4, iV (v4 + 1)), (3, iV (v3 + (mI M8 79 v4.toNatClampNeg))), (0, rV (some 60)), (1, iV v1), (2, iV v2)]) rfl (by decide) (by decide) rfl dX12_week_67 ?_
          refine e_goto (tgt := 5) dX12_week_70 (by decide) ?_
          exact e_lv (List.forall_mem_cons.mpr ⟨rfl, List.forall_mem_cons.mpr ⟨rfl, List.forall_mem_cons.mpr ⟨rfl, List.forall_mem_cons.mpr ⟨rfl, List.forall_mem_cons.mpr ⟨rfl, fun _ h => absurd h List.not_mem_nil⟩⟩⟩⟩⟩) h
abbrev H_X12_word_0 (l : Launch) (q : o_M → Prop) (M : o_M) : Prop := E_X12_word l q 0 [(0, rV (some 60))] [] M 0 0
abbrev H_X12_word_41 (l : Launch) (q : o_M → Prop) (v1 : Int32) (v2 : Int32) (v3 : Int32) (v4 : Int32) (M : o_M) : Prop := E_X12_word l q 41 [(0, rV (some 60)), (1, iV v1), (2, iV v2), (3, iV v3), (4, iV v4)] [] M 0 0
theorem w_X12_word (l : Launch) (M : o_M) (q : o_M → Prop) (h : K_X12_byteAt l [rV (some 60), iV (mI M 60 43)] M (fun r2 M1 => K_X12_isLetter l [iV r2] M1 (fun r4 M3 => ((r4 = 0 → H_X12_word_41 l q 0 0 1 0 (sI M3 60 45 2)) ∧ (¬ r4 = 0 → H_X12_word_0 l q (sI M3 60 43 ((mI M3 60 43) + 1))))))) : K_X12_word l [rV (some 60)] M q := by
  refine o_ctr (ini := false) (by decide +kernel) rfl (fun z => by cases z) (Nat.le_of_ble_eq_true rfl) ?_
  show E_X12_word l q 0 [(0, rV (some 60))] [] M 0 0
  refine e_aload_n dX12_word_0 rfl rfl ?_
  refine e_aload_n dX12_word_1 rfl rfl ?_
  refine e_gI flX12_206 rfl rfl dX12_word_2 ?_
  refine e_callV (As := [iV (mI M 60 43)]) (st := []) mt_X12_byteAt in_X12_byteAt lkX12_209 rfl rfl ⟨by decide, by decide⟩ (Nat.le_of_ble_eq_true rfl) ⟨by decide, by decide⟩ rfl rfl dX12_word_5 (Ctr.mono h (fun v M1 h => ?_))
  obtain ⟨r2, rfl, h⟩ := h
  show E_X12_word l q 8 [(0, rV (some 60))] [iV r2] M1 0 0
  refine e_callS (As := [iV r2]) (st := []) mt_X12_isLetter is_X12_isLetter lkX12_218 ⟨by decide, by decide⟩ (Nat.le_of_ble_eq_true rfl) ⟨by decide, by decide⟩ rfl rfl dX12_word_8 (Ctr.mono h (fun v M3 h => ?_))
  obtain ⟨r4, rfl, h⟩ := h
  show E_X12_word l q 11 [(0, rV (some 60))] [iV r4] M3 0 0
  refine e_if_eq (tgt := 27) dX12_word_11 (by decide) (fun c5 => ?_) (fun c5 => ?_)
  · replace h := h.1 c5
    refine e_iconst (v := 0) dX12_word_27 (by decide) ?_
    refine e_istore_n (lv' := [(1, iV 0), (0, rV (some 60))]) dX12_word_28 rfl (by decide) rfl ?_
    refine e_iconst (v := 0) dX12_word_29 (by decide) ?_
    refine e_istore_n (lv' := [(2, iV 0), (1, iV 0), (0, rV (some 60))]) dX12_word_30 rfl (by decide) rfl ?_
    refine e_iconst (v := 1) dX12_word_31 (by decide) ?_
    refine e_istore_n (lv' := [(3, iV 1), (2, iV 0), (1, iV 0), (0, rV (some 60))]) dX12_word_32 rfl (by decide) rfl ?_
    refine e_aload_n dX12_word_33 rfl rfl ?_
    refine e_iconst (v := 2) dX12_word_34 (by decide) ?_
    refine e_pI flX12_215 rfl (Or.inl rfl) rfl rfl rfl dX12_word_35 ?_
    refine e_iconst (v := 0) dX12_word_38 (by decide) ?_
    refine e_istore (lv' := [(4, iV 0), (3, iV 1), (2, iV 0), (1, iV 0), (0, rV (some 60))]) (by decide) rfl dX12_word_39 ?_
    exact e_lv (List.forall_mem_cons.mpr ⟨rfl, List.forall_mem_cons.mpr ⟨rfl, List.forall_mem_cons.mpr ⟨rfl, List.forall_mem_cons.mpr ⟨rfl, List.forall_mem_cons.mpr ⟨rfl, fun _ h => absurd h List.not_mem_nil⟩⟩⟩⟩⟩) h
  · replace h := h.2 c5
    refine e_aload_n dX12_word_14 rfl rfl ?_
    refine e_dup rfl dX12_word_15 ?_
    refine e_gI flX12_206 rfl rfl dX12_word_16 ?_
    refine e_iconst (v := 1) dX12_word_19 (by decide) ?_
    refine e_iadd dX12_word_20 ?_
    refine e_pI flX12_206 rfl (Or.inl rfl) rfl rfl rfl dX12_word_21 ?_
    refine e_goto (tgt := 0) dX12_word_24 (by decide) ?_
    exact e_lv (List.forall_mem_cons.mpr ⟨rfl, fun _ h => absurd h List.not_mem_nil⟩) h
theorem w_X12_word_41 (l : Launch) (q : o_M → Prop) (v1 : Int32) (v2 : Int32) (v3 : Int32) (v4 : Int32) (M : o_M) (h : (mR M 60 41 = some 102 ∧ (((Int32.ofNat (mN M 102)) ≤ v4 → q M) ∧ (¬ (Int32.ofNat (mN M 102)) ≤ v4 → (mR M 60 41 = some 102 ∧ (vp_in v4 (mN M 102) ∧ ((¬ (mI M 102 v4.toNatClampNeg) = 0 → ((v3 = 0 → H_X12_word_41 l q v1 (v2 + 1) 0 (v4 + 1) M) ∧ (¬ v3 = 0 → K_X12_byteAt l [rV (some 60), iV ((mI M 60 44) + v2)] M (fun r13 M12 => (mR M12 60 41 = some 102 ∧ (vp_in v4 (mN M12 102) ∧ ((¬ r13 = (mI M12 102 v4.toNatClampNeg) → H_X12_word_41 l q v1 (v2 + 1) 0 (v4 + 1) M12) ∧ (r13 = (mI M12 102 v4.toNatClampNeg) → ((((mI M12 60 43) - (mI M12 60 44)) ≤ v2 → H_X12_word_41 l q v1 (v2 + 1) 0 (v4 + 1) M12) ∧ (¬ ((mI M12 60 43) - (mI M12 60 44)) ≤ v2 → H_X12_word_41 l q v1 (v2 + 1) 1 (v4 + 1) M12)))))))))) ∧ ((mI M 102 v4.toNatClampNeg) = 0 → ((v3 = 0 → H_X12_word_41 l q (v1 + 1) 0 1 (v4 + 1) M) ∧ (¬ v3 = 0 → ((¬ v2 = ((mI M 60 43) - (mI M 60 44)) → H_X12_word_41 l q (v1 + 1) 0 1 (v4 + 1) M) ∧ (v2 = ((mI M 60 43) - (mI M 60 44)) → ((10 ≤ v1 → H_X12_word_41 l q (v1 + 1) 0 1 (v4 + 1) (sI (sI M 60 45 ((300 + v1) - 10)) 60 46 v1)) ∧ (¬ 10 ≤ v1 → H_X12_word_41 l q (v1 + 1) 0 1 (v4 + 1) (sI (sI M 60 45 3) 60 46 v1))))))))))))))) : H_X12_word_41 l q v1 v2 v3 v4 M := by
  refine e_iload rfl dX12_word_41 ?_
  refine e_aload_n dX12_word_43 rfl rfl ?_
  obtain ⟨o6, h⟩ := h
  refine e_gA flX12_114 rfl rfl o6 dX12_word_44 ?_
  refine e_alen rfl (by decide) rfl dX12_word_47 ?_
  refine e_ic_ge (tgt := 167) dX12_word_48 (by decide) (fun c7 => ?_) (fun c7 => ?_)
  · replace h := h.1 c7
    exact e_ret rfl dX12_word_167 ⟨rfl, h⟩
  · replace h := h.2 c7
    refine e_aload_n dX12_word_51 rfl rfl ?_
    obtain ⟨o8, h⟩ := h
    refine e_gA flX12_114 rfl rfl o8 dX12_word_52 ?_
    refine e_iload rfl dX12_word_55 ?_
    obtain ⟨o9, h⟩ := h
    refine e_iald rfl o9 dX12_word_57 ?_
    refine e_if_ne (tgt := 115) dX12_word_58 (by decide) (fun c10 => ?_) (fun c10 => ?_)
    · replace h := h.1 c10
      refine e_iload_n dX12_word_115 rfl rfl ?_
      refine e_if_eq (tgt := 156) dX12_word_116 (by decide) (fun c11 => ?_) (fun c11 => ?_)
      · replace h := h.1 c11
        refine e_iconst (v := 0) dX12_word_156 (by decide) ?_
        refine e_istore_n (lv' := [(3, iV 0), (0, rV (some 60)), (1, iV v1), (2, iV v2), (4, iV v4)]) dX12_word_157 rfl (by decide) rfl ?_
        refine e_iinc (v := 1) (lv' := [(2, iV (v2 + 1)), (3, iV 0), (0, rV (some 60)), (1, iV v1), (4, iV v4)]) rfl (by decide) (by decide) rfl dX12_word_158 ?_
        refine e_iinc (v := 1) (lv' := [(4, iV (v4 + 1)), (2, iV (v2 + 1)), (3, iV 0), (0, rV (some 60)), (1, iV v1)]) rfl (by decide) (by decide) rfl dX12_word_161 ?_
        refine e_goto (tgt := 41) dX12_word_164 (by decide) ?_
        exact e_lv (List.forall_mem_cons.mpr ⟨rfl, List.forall_mem_cons.mpr ⟨rfl, List.forall_mem_cons.mpr ⟨rfl, List.forall_mem_cons.mpr ⟨rfl, List.forall_mem_cons.mpr ⟨rfl, fun _ h => absurd h List.not_mem_nil⟩⟩⟩⟩⟩) h
      · replace h := h.2 c11
        refine e_aload_n dX12_word_119 rfl rfl ?_
        refine e_aload_n dX12_word_120 rfl rfl ?_
        refine e_gI flX12_212 rfl rfl dX12_word_121 ?_
        refine e_iload_n dX12_word_124 rfl rfl ?_
        refine e_iadd dX12_word_125 ?_
        refine e_callV (As := [iV ((mI M 60 44) + v2)]) (st := []) mt_X12_byteAt in_X12_byteAt lkX12_209 rfl rfl ⟨by decide, by decide⟩ (Nat.le_of_ble_eq_true rfl) ⟨by decide, by decide⟩ rfl rfl dX12_word_126 (Ctr.mono h (fun v M12 h => ?_))
        obtain ⟨r13, rfl, h⟩ := h
        show E_X12_word l q 129 [(0, rV (some 60)), (1, iV v1), (2, iV v2), (3, iV v3), (4, iV v4)] [iV r13] M12 0 0
        refine e_aload_n dX12_word_129 rfl rfl ?_
        obtain ⟨o14, h⟩ := h
        refine e_gA flX12_114 rfl rfl o14 dX12_word_130 ?_
        refine e_iload rfl dX12_word_133 ?_
        obtain ⟨o15, h⟩ := h
        refine e_iald rfl o15 dX12_word_135 ?_
        refine e_ic_ne (tgt := 156) dX12_word_136 (by decide) (fun c16 => ?_) (fun c16 => ?_)
        · replace h := h.1 c16
          refine e_iconst (v := 0) dX12_word_156 (by decide) ?_
          refine e_istore_n (lv' := [(3, iV 0), (0, rV (some 60)), (1, iV v1), (2, iV v2), (4, iV v4)]) dX12_word_157 rfl (by decide) rfl ?_
          refine e_iinc (v := 1) (lv' := [(2, iV (v2 + 1)), (3, iV 0), (0, rV (some 60)), (1, iV v1), (4, iV v4)]) rfl (by decide) (by decide) rfl dX12_word_158 ?_
          refine e_iinc (v := 1) (lv' := [(4, iV (v4 + 1)), (2, iV (v2 + 1)), (3, iV 0), (0, rV (some 60)), (1, iV v1)]) rfl (by decide) (by decide) rfl dX12_word_161 ?_
          refine e_goto (tgt := 41) dX12_word_164 (by decide) ?_
          exact e_lv (List.forall_mem_cons.mpr ⟨rfl, List.forall_mem_cons.mpr ⟨rfl, List.forall_mem_cons.mpr ⟨rfl, List.forall_mem_cons.mpr ⟨rfl, List.forall_mem_cons.mpr ⟨rfl, fun _ h => absurd h List.not_mem_nil⟩⟩⟩⟩⟩) h
        · replace h := h.2 c16
          refine e_iload_n dX12_word_139 rfl rfl ?_
          refine e_aload_n dX12_word_140 rfl rfl ?_
          refine e_gI flX12_206 rfl rfl dX12_word_141 ?_
          refine e_aload_n dX12_word_144 rfl rfl ?_
          refine e_gI flX12_212 rfl rfl dX12_word_145 ?_
          refine e_isub dX12_word_148 ?_
          refine e_ic_ge (tgt := 156) dX12_word_149 (by decide) (fun c17 => ?_) (fun c17 => ?_)
          · replace h := h.1 c17
            refine e_iconst (v := 0) dX12_word_156 (by decide) ?_
            refine e_istore_n (lv' := [(3, iV 0), (0, rV (some 60)), (1, iV v1), (2, iV v2), (4, iV v4)]) dX12_word_157 rfl (by decide) rfl ?_
            refine e_iinc (v := 1) (lv' := [(2, iV (v2 + 1)), (3, iV 0), (0, rV (some 60)), (1, iV v1), (4, iV v4)]) rfl (by decide) (by decide) rfl dX12_word_158 ?_
            refine e_iinc (v := 1) (lv' := [(4, iV (v4 + 1)), (2, iV (v2 + 1)), (3, iV 0), (0, rV (some 60)), (1, iV v1)]) rfl (by decide) (by decide) rfl dX12_word_161 ?_
            refine e_goto (tgt := 41) dX12_word_164 (by decide) ?_
            exact e_lv (List.forall_mem_cons.mpr ⟨rfl, List.forall_mem_cons.mpr ⟨rfl, List.forall_mem_cons.mpr ⟨rfl, List.forall_mem_cons.mpr ⟨rfl, List.forall_mem_cons.mpr ⟨rfl, fun _ h => absurd h List.not_mem_nil⟩⟩⟩⟩⟩) h
          · replace h := h.2 c17
            refine e_iconst (v := 1) dX12_word_152 (by decide) ?_
            refine e_goto (tgt := 157) dX12_word_153 (by decide) ?_
            refine e_istore_n (lv' := [(3, iV 1), (0, rV (some 60)), (1, iV v1), (2, iV v2), (4, iV v4)]) dX12_word_157 rfl (by decide) rfl ?_
            refine e_iinc (v := 1) (lv' := [(2, iV (v2 + 1)), (3, iV 1), (0, rV (some 60)), (1, iV v1), (4, iV v4)]) rfl (by decide) (by decide) rfl dX12_word_158 ?_
            refine e_iinc (v := 1) (lv' := [(4, iV (v4 + 1)), (2, iV (v2 + 1)), (3, iV 1), (0, rV (some 60)), (1, iV v1)]) rfl (by decide) (by decide) rfl dX12_word_161 ?_
            refine e_goto (tgt := 41) dX12_word_164 (by decide) ?_
            exact e_lv (List.forall_mem_cons.mpr ⟨rfl, List.forall_mem_cons.mpr ⟨rfl, List.forall_mem_cons.mpr ⟨rfl, List.forall_mem_cons.mpr ⟨rfl, List.forall_mem_cons.mpr ⟨rfl, fun _ h => absurd h List.not_mem_nil⟩⟩⟩⟩⟩) h
    · replace h := h.2 c10
      refine e_iload_n dX12_word_61 rfl rfl ?_
      refine e_if_eq (tgt := 105) dX12_word_62 (by decide) (fun c18 => ?_) (fun c18 => ?_)
      · replace h := h.1 c18
        refine e_iinc (v := 1) (lv' := [(1, iV (v1 + 1)), (0, rV (some 60)), (2, iV v2), (3, iV v3), (4, iV v4)]) rfl (by decide) (by decide) rfl dX12_word_105 ?_
        refine e_iconst (v := 0) dX12_word_108 (by decide) ?_
        refine e_istore_n (lv' := [(2, iV 0), (1, iV (v1 + 1)), (0, rV (some 60)), (3, iV v3), (4, iV v4)]) dX12_word_109 rfl (by decide) rfl ?_
        refine e_iconst (v := 1) dX12_word_110 (by decide) ?_
        refine e_istore_n (lv' := [(3, iV 1), (2, iV 0), (1, iV (v1 + 1)), (0, rV (some 60)), (4, iV v4)]) dX12_word_111 rfl (by decide) rfl ?_
        refine e_goto (tgt := 161) dX12_word_112 (by decide) ?_
        refine e_iinc (v := 1) (lv' := [(4, iV (v4 + 1)), (3, iV 1), (2, iV 0), (1, iV (v1 + 1)), (0, rV (some 60))]) rfl (by decide) (by decide) rfl dX12_word_161 ?_
        refine e_goto (tgt := 41) dX12_word_164 (by decide) ?_
        exact e_lv (List.forall_mem_cons.mpr ⟨rfl, List.forall_mem_cons.mpr ⟨rfl, List.forall_mem_cons.mpr ⟨rfl, List.forall_mem_cons.mpr ⟨rfl, List.forall_mem_cons.mpr ⟨rfl, fun _ h => absurd h List.not_mem_nil⟩⟩⟩⟩⟩) h
      · replace h := h.2 c18
        refine e_iload_n dX12_word_65 rfl rfl ?_
        refine e_aload_n dX12_word_66 rfl rfl ?_
        refine e_gI flX12_206 rfl rfl dX12_word_67 ?_
        refine e_aload_n dX12_word_70 rfl rfl ?_
        refine e_gI flX12_212 rfl rfl dX12_word_71 ?_
        refine e_isub dX12_word_74 ?_
        refine e_ic_ne (tgt := 105) dX12_word_75 (by decide) (fun c19 => ?_) (fun c19 => ?_)
        · replace h := h.1 c19
          refine e_iinc (v := 1) (lv' := [(1, iV (v1 + 1)), (0, rV (some 60)), (2, iV v2), (3, iV v3), (4, iV v4)]) rfl (by decide) (by decide) rfl dX12_word_105 ?_
          refine e_iconst (v := 0) dX12_word_108 (by decide) ?_
          refine e_istore_n (lv' := [(2, iV 0), (1, iV (v1 + 1)), (0, rV (some 60)), (3, iV v3), (4, iV v4)]) dX12_word_109 rfl (by decide) rfl ?_
          refine e_iconst (v := 1) dX12_word_110 (by decide) ?_
          refine e_istore_n (lv' := [(3, iV 1), (2, iV 0), (1, iV (v1 + 1)), (0, rV (some 60)), (4, iV v4)]) dX12_word_111 rfl (by decide) rfl ?_
          refine e_goto (tgt := 161) dX12_word_112 (by decide) ?_
          refine e_iinc (v := 1) (lv' := [(4, iV (v4 + 1)), (3, iV 1), (2, iV 0), (1, iV (v1 + 1)), (0, rV (some 60))]) rfl (by decide) (by decide) rfl dX12_word_161 ?_
          refine e_goto (tgt := 41) dX12_word_164 (by decide) ?_
          exact e_lv (List.forall_mem_cons.mpr ⟨rfl, List.forall_mem_cons.mpr ⟨rfl, List.forall_mem_cons.mpr ⟨rfl, List.forall_mem_cons.mpr ⟨rfl, List.forall_mem_cons.mpr ⟨rfl, fun _ h => absurd h List.not_mem_nil⟩⟩⟩⟩⟩) h
        · replace h := h.2 c19
          refine e_aload_n dX12_word_78 rfl rfl ?_
          refine e_iload_n dX12_word_79 rfl rfl ?_
          refine e_bipush (v := 10) dX12_word_80 (by decide) ?_
          refine e_ic_ge (tgt := 89) dX12_word_82 (by decide) (fun c20 => ?_) (fun c20 => ?_)
          · replace h := h.1 c20
            refine e_sipush (v := 300) dX12_word_89 (by decide) ?_
            refine e_iload_n dX12_word_92 rfl rfl ?_
            refine e_iadd dX12_word_93 ?_
            refine e_bipush (v := 10) dX12_word_94 (by decide) ?_
            refine e_isub dX12_word_96 ?_
            refine e_pI flX12_215 rfl (Or.inl rfl) rfl rfl rfl dX12_word_97 ?_
            refine e_aload_n dX12_word_100 rfl rfl ?_
            refine e_iload_n dX12_word_101 rfl rfl ?_
            refine e_pI flX12_230 rfl (Or.inl rfl) rfl rfl rfl dX12_word_102 ?_
            refine e_iinc (v := 1) (lv' := [(1, iV (v1 + 1)), (0, rV (some 60)), (2, iV v2), (3, iV v3), (4, iV v4)]) rfl (by decide) (by decide) rfl dX12_word_105 ?_
            refine e_iconst (v := 0) dX12_word_108 (by decide) ?_
            refine e_istore_n (lv' := [(2, iV 0), (1, iV (v1 + 1)), (0, rV (some 60)), (3, iV v3), (4, iV v4)]) dX12_word_109 rfl (by decide) rfl ?_
            refine e_iconst (v := 1) dX12_word_110 (by decide) ?_
            refine e_istore_n (lv' := [(3, iV 1), (2, iV 0), (1, iV (v1 + 1)), (0, rV (some 60)), (4, iV v4)]) dX12_word_111 rfl (by decide) rfl ?_
            refine e_goto (tgt := 161) dX12_word_112 (by decide) ?_
            refine e_iinc (v := 1) (lv' := [(4, iV (v4 + 1)), (3, iV 1), (2, iV 0), (1, iV (v1 + 1)), (0, rV (some 60))]) rfl (by decide) (by decide) rfl dX12_word_161 ?_
            refine e_goto (tgt := 41) dX12_word_164 (by decide) ?_
            exact e_lv (List.forall_mem_cons.mpr ⟨rfl, List.forall_mem_cons.mpr ⟨rfl, List.forall_mem_cons.mpr ⟨rfl, List.forall_mem_cons.mpr ⟨rfl, List.forall_mem_cons.mpr ⟨rfl, fun _ h => absurd h List.not_mem_nil⟩⟩⟩⟩⟩) h
          · replace h := h.2 c20
            refine e_iconst (v := 3) dX12_word_85 (by decide) ?_
            refine e_goto (tgt := 97) dX12_word_86 (by decide) ?_
            refine e_pI flX12_215 rfl (Or.inl rfl) rfl rfl rfl dX12_word_97 ?_
            refine e_aload_n dX12_word_100 rfl rfl ?_
            refine e_iload_n dX12_word_101 rfl rfl ?_
            refine e_pI flX12_230 rfl (Or.inl rfl) rfl rfl rfl dX12_word_102 ?_
            refine e_iinc (v := 1) (lv' := [(1, iV (v1 + 1)), (0, rV (some 60)), (2, iV v2), (3, iV v3), (4, iV v4)]) rfl (by decide) (by decide) rfl dX12_word_105 ?_
            refine e_iconst (v := 0) dX12_word_108 (by decide) ?_
            refine e_istore_n (lv' := [(2, iV 0), (1, iV (v1 + 1)), (0, rV (some 60)), (3, iV v3), (4, iV v4)]) dX12_word_109 rfl (by decide) rfl ?_
            refine e_iconst (v := 1) dX12_word_110 (by decide) ?_
            refine e_istore_n (lv' := [(3, iV 1), (2, iV 0), (1, iV (v1 + 1)), (0, rV (some 60)), (4, iV v4)]) dX12_word_111 rfl (by decide) rfl ?_
            refine e_goto (tgt := 161) dX12_word_112 (by decide) ?_
            refine e_iinc (v := 1) (lv' := [(4, iV (v4 + 1)), (3, iV 1), (2, iV 0), (1, iV (v1 + 1)), (0, rV (some 60))]) rfl (by decide) (by decide) rfl dX12_word_161 ?_
            refine e_goto (tgt := 41) dX12_word_164 (by decide) ?_
            exact e_lv (List.forall_mem_cons.mpr ⟨rfl, List.forall_mem_cons.mpr ⟨rfl, List.forall_mem_cons.mpr ⟨rfl, List.forall_mem_cons.mpr ⟨rfl, List.forall_mem_cons.mpr ⟨rfl, fun _ h => absurd h List.not_mem_nil⟩⟩⟩⟩⟩) h
theorem w_X12_word_0 (l : Launch) (q : o_M → Prop) (M : o_M) (h : K_X12_byteAt l [rV (some 60), iV (mI M 60 43)] M (fun r22 M21 => K_X12_isLetter l [iV r22] M21 (fun r24 M23 => ((r24 = 0 → H_X12_word_41 l q 0 0 1 0 (sI M23 60 45 2)) ∧ (¬ r24 = 0 → H_X12_word_0 l q (sI M23 60 43 ((mI M23 60 43) + 1))))))) : H_X12_word_0 l q M := by
  refine e_aload_n dX12_word_0 rfl rfl ?_
  refine e_aload_n dX12_word_1 rfl rfl ?_
  refine e_gI flX12_206 rfl rfl dX12_word_2 ?_
  refine e_callV (As := [iV (mI M 60 43)]) (st := []) mt_X12_byteAt in_X12_byteAt lkX12_209 rfl rfl ⟨by decide, by decide⟩ (Nat.le_of_ble_eq_true rfl) ⟨by decide, by decide⟩ rfl rfl dX12_word_5 (Ctr.mono h (fun v M21 h => ?_))
  obtain ⟨r22, rfl, h⟩ := h
  show E_X12_word l q 8 [(0, rV (some 60))] [iV r22] M21 0 0
  refine e_callS (As := [iV r22]) (st := []) mt_X12_isLetter is_X12_isLetter lkX12_218 ⟨by decide, by decide⟩ (Nat.le_of_ble_eq_true rfl) ⟨by decide, by decide⟩ rfl rfl dX12_word_8 (Ctr.mono h (fun v M23 h => ?_))
  obtain ⟨r24, rfl, h⟩ := h
  show E_X12_word l q 11 [(0, rV (some 60))] [iV r24] M23 0 0
  refine e_if_eq (tgt := 27) dX12_word_11 (by decide) (fun c25 => ?_) (fun c25 => ?_)
  · replace h := h.1 c25
    refine e_iconst (v := 0) dX12_word_27 (by decide) ?_
    refine e_istore_n (lv' := [(1, iV 0), (0, rV (some 60))]) dX12_word_28 rfl (by decide) rfl ?_
    refine e_iconst (v := 0) dX12_word_29 (by decide) ?_
    refine e_istore_n (lv' := [(2, iV 0), (1, iV 0), (0, rV (some 60))]) dX12_word_30 rfl (by decide) rfl ?_
    refine e_iconst (v := 1) dX12_word_31 (by decide) ?_
    refine e_istore_n (lv' := [(3, iV 1), (2, iV 0), (1, iV 0), (0, rV (some 60))]) dX12_word_32 rfl (by decide) rfl ?_
    refine e_aload_n dX12_word_33 rfl rfl ?_
    refine e_iconst (v := 2) dX12_word_34 (by decide) ?_
    refine e_pI flX12_215 rfl (Or.inl rfl) rfl rfl rfl dX12_word_35 ?_
    refine e_iconst (v := 0) dX12_word_38 (by decide) ?_
    refine e_istore (lv' := [(4, iV 0), (3, iV 1), (2, iV 0), (1, iV 0), (0, rV (some 60))]) (by decide) rfl dX12_word_39 ?_
    exact e_lv (List.forall_mem_cons.mpr ⟨rfl, List.forall_mem_cons.mpr ⟨rfl, List.forall_mem_cons.mpr ⟨rfl, List.forall_mem_cons.mpr ⟨rfl, List.forall_mem_cons.mpr ⟨rfl, fun _ h => absurd h List.not_mem_nil⟩⟩⟩⟩⟩) h
  · replace h := h.2 c25
    refine e_aload_n dX12_word_14 rfl rfl ?_
    refine e_dup rfl dX12_word_15 ?_
    refine e_gI flX12_206 rfl rfl dX12_word_16 ?_
    refine e_iconst (v := 1) dX12_word_19 (by decide) ?_
    refine e_iadd dX12_word_20 ?_
    refine e_pI flX12_206 rfl (Or.inl rfl) rfl rfl rfl dX12_word_21 ?_
    refine e_goto (tgt := 0) dX12_word_24 (by decide) ?_
    exact e_lv (List.forall_mem_cons.mpr ⟨rfl, fun _ h => absurd h List.not_mem_nil⟩) h
theorem w_X12_work (l : Launch) (p1 : Int32) (p2 : Int32) (p3 : Int32) (M : o_M) (q : Int32 → o_M → Prop) (h : K_X12_in l [iV p1, iV 1, iV 90] M (fun r2 M1 => ((r2 = 0 → q (-2) M1) ∧ (¬ r2 = 0 → K_X12_in l [iV p2, iV 0, iV 1000] M1 (fun r5 M4 => ((r5 = 0 → q (-2) M4) ∧ (¬ r5 = 0 → K_X12_in l [iV p3, iV 0, iV 4095] M4 (fun r8 M7 => ((¬ r8 = 0 → ((¬ (mI M7 60 0) = 12 → (mR M7 60 1 = some 62 ∧ (vp_in (mI M7 60 0) (mN M7 62) ∧ (mR (sI M7 62 ((mI M7 60 0).toNatClampNeg) p1) 60 2 = some 63 ∧ (vp_in (mI (sI M7 62 ((mI M7 60 0).toNatClampNeg) p1) 60 0) (mN (sI M7 62 ((mI M7 60 0).toNatClampNeg) p1) 63) ∧ (mR (sI (sI M7 62 ((mI M7 60 0).toNatClampNeg) p1) 63 ((mI (sI M7 62 ((mI M7 60 0).toNatClampNeg) p1) 60 0).toNatClampNeg) p2) 60 3 = some 64 ∧ (vp_in (mI (sI (sI M7 62 ((mI M7 60 0).toNatClampNeg) p1) 63 ((mI (sI M7 62 ((mI M7 60 0).toNatClampNeg) p1) 60 0).toNatClampNeg) p2) 60 0) (mN (sI (sI M7 62 ((mI M7 60 0).toNatClampNeg) p1) 63 ((mI (sI M7 62 ((mI M7 60 0).toNatClampNeg) p1) 60 0).toNatClampNeg) p2) 64) ∧ (∀ M17, M17 = sI (sI (sI M7 62 ((mI M7 60 0).toNatClampNeg) p1) 63 ((mI (sI M7 62 ((mI M7 60 0).toNatClampNeg) p1) 60 0).toNatClampNeg) p2) 64 ((mI (sI (sI M7 62 ((mI M7 60 0).toNatClampNeg) p1) 63 ((mI (sI M7 62 ((mI M7 60 0).toNatClampNeg) p1) 60 0).toNatClampNeg) p2) 60 0).toNatClampNeg) p3 → (mR M17 60 4 = some 65 ∧ (vp_in (mI M17 60 0) (mN M17 65) ∧ q ((mI (sI (sI M17 65 ((mI M17 60 0).toNatClampNeg) 0) 60 0 ((mI (sI M17 65 ((mI M17 60 0).toNatClampNeg) 0) 60 0) + 1)) 60 0) - 1) (sI (sI M17 65 ((mI M17 60 0).toNatClampNeg) 0) 60 0 ((mI (sI M17 65 ((mI M17 60 0).toNatClampNeg) 0) 60 0) + 1)))))))))))) ∧ ((mI M7 60 0) = 12 → q (-4) M7))) ∧ (r8 = 0 → q (-2) M7)))))))))) : K_X12_work l [rV (some 60), iV p1, iV p2, iV p3] M q := by
  refine o_ctr (ini := false) (by decide +kernel) rfl (fun z => by cases z) (Nat.le_of_ble_eq_true rfl) ?_
  show E_X12_work l q 0 [(0, rV (some 60)), (1, iV p1), (2, iV p2), (3, iV p3)] [] M 0 0
  refine e_iload_n dX12_work_0 rfl rfl ?_
  refine e_iconst (v := 1) dX12_work_1 (by decide) ?_
  refine e_bipush (v := 90) dX12_work_2 (by decide) ?_
  refine e_callS (As := [iV p1, iV 1, iV 90]) (st := []) mt_X12_in is_X12_in lkX12_155 ⟨by decide, by decide⟩ (Nat.le_of_ble_eq_true rfl) ⟨by decide, by decide⟩ rfl rfl dX12_work_4 (Ctr.mono h (fun v M1 h => ?_))
  obtain ⟨r2, rfl, h⟩ := h
  show E_X12_work l q 7 [(0, rV (some 60)), (1, iV p1), (2, iV p2), (3, iV p3)] [iV r2] M1 0 0
  refine e_if_eq (tgt := 32) dX12_work_7 (by decide) (fun c3 => ?_) (fun c3 => ?_)
  · replace h := h.1 c3
    refine e_bipush (v := (-2)) dX12_work_32 (by decide) ?_
    exact e_iret rfl trivial dX12_work_34 ⟨_, rfl, h⟩
  · replace h := h.2 c3
    refine e_iload_n dX12_work_10 rfl rfl ?_
    refine e_iconst (v := 0) dX12_work_11 (by decide) ?_
    refine e_sipush (v := 1000) dX12_work_12 (by decide) ?_
    refine e_callS (As := [iV p2, iV 0, iV 1000]) (st := []) mt_X12_in is_X12_in lkX12_155 ⟨by decide, by decide⟩ (Nat.le_of_ble_eq_true rfl) ⟨by decide, by decide⟩ rfl rfl dX12_work_15 (Ctr.mono h (fun v M4 h => ?_))
    obtain ⟨r5, rfl, h⟩ := h
    show E_X12_work l q 18 [(0, rV (some 60)), (1, iV p1), (2, iV p2), (3, iV p3)] [iV r5] M4 0 0
    refine e_if_eq (tgt := 32) dX12_work_18 (by decide) (fun c6 => ?_) (fun c6 => ?_)
    · replace h := h.1 c6
      refine e_bipush (v := (-2)) dX12_work_32 (by decide) ?_
      exact e_iret rfl trivial dX12_work_34 ⟨_, rfl, h⟩
    · replace h := h.2 c6
      refine e_iload_n dX12_work_21 rfl rfl ?_
      refine e_iconst (v := 0) dX12_work_22 (by decide) ?_
      refine e_sipush (v := 4095) dX12_work_23 (by decide) ?_
      refine e_callS (As := [iV p3, iV 0, iV 4095]) (st := []) mt_X12_in is_X12_in lkX12_155 ⟨by decide, by decide⟩ (Nat.le_of_ble_eq_true rfl) ⟨by decide, by decide⟩ rfl rfl dX12_work_26 (Ctr.mono h (fun v M7 h => ?_))
      obtain ⟨r8, rfl, h⟩ := h
      show E_X12_work l q 29 [(0, rV (some 60)), (1, iV p1), (2, iV p2), (3, iV p3)] [iV r8] M7 0 0
      refine e_if_ne (tgt := 35) dX12_work_29 (by decide) (fun c9 => ?_) (fun c9 => ?_)
      · replace h := h.1 c9
        refine e_aload_n dX12_work_35 rfl rfl ?_
        refine e_gI flX12_152 rfl rfl dX12_work_36 ?_
        refine e_bipush (v := 12) dX12_work_39 (by decide) ?_
        refine e_ic_ne (tgt := 47) dX12_work_41 (by decide) (fun c10 => ?_) (fun c10 => ?_)
        · replace h := h.1 c10
          refine e_aload_n dX12_work_47 rfl rfl ?_
          obtain ⟨o11, h⟩ := h
          refine e_gA flX12_7 rfl rfl o11 dX12_work_48 ?_
          refine e_aload_n dX12_work_51 rfl rfl ?_
          refine e_gI flX12_152 rfl rfl dX12_work_52 ?_
          refine e_iload_n dX12_work_55 rfl rfl ?_
          obtain ⟨o12, h⟩ := h
          refine e_iast rfl o12 dX12_work_56 ?_
          refine e_aload_n dX12_work_57 rfl rfl ?_
          obtain ⟨o13, h⟩ := h
          refine e_gA flX12_13 rfl rfl o13 dX12_work_58 ?_
          refine e_aload_n dX12_work_61 rfl rfl ?_
          refine e_gI flX12_152 rfl rfl dX12_work_62 ?_
          refine e_iload_n dX12_work_65 rfl rfl ?_
          obtain ⟨o14, h⟩ := h
          refine e_iast rfl o14 dX12_work_66 ?_
          refine e_aload_n dX12_work_67 rfl rfl ?_
          obtain ⟨o15, h⟩ := h
          refine e_gA flX12_16 rfl rfl o15 dX12_work_68 ?_
          refine e_aload_n dX12_work_71 rfl rfl ?_
          refine e_gI flX12_152 rfl rfl dX12_work_72 ?_
          refine e_iload_n dX12_work_75 rfl rfl ?_
          obtain ⟨o16, h⟩ := h
          refine e_iast rfl o16 dX12_work_76 ?_
          generalize hgM17 : sI (sI (sI M7 62 ((mI M7 60 0).toNatClampNeg) p1) 63 ((mI (sI M7 62 ((mI M7 60 0).toNatClampNeg) p1) 60 0).toNatClampNeg) p2) 64 ((mI (sI (sI M7 62 ((mI M7 60 0).toNatClampNeg) p1) 63 ((mI (sI M7 62 ((mI M7 60 0).toNatClampNeg) p1) 60 0).toNatClampNeg) p2) 60 0).toNatClampNeg) p3 = M17
          replace h := h M17 hgM17.symm
          refine e_aload_n dX12_work_77 rfl rfl ?_
          obtain ⟨o18, h⟩ := h
          refine e_gA flX12_19 rfl rfl o18 dX12_work_78 ?_
          refine e_aload_n dX12_work_81 rfl rfl ?_
          refine e_gI flX12_152 rfl rfl dX12_work_82 ?_
          refine e_iconst (v := 0) dX12_work_85 (by decide) ?_
          obtain ⟨o19, h⟩ := h
          refine e_iast rfl o19 dX12_work_86 ?_
          refine e_aload_n dX12_work_87 rfl rfl ?_
          refine e_dup rfl dX12_work_88 ?_
          refine e_gI flX12_152 rfl rfl dX12_work_89 ?_
          refine e_iconst (v := 1) dX12_work_92 (by decide) ?_
          refine e_iadd dX12_work_93 ?_
          refine e_pI flX12_152 rfl (Or.inl rfl) rfl rfl rfl dX12_work_94 ?_
          refine e_aload_n dX12_work_97 rfl rfl ?_
          refine e_gI flX12_152 rfl rfl dX12_work_98 ?_
          refine e_iconst (v := 1) dX12_work_101 (by decide) ?_
          refine e_isub dX12_work_102 ?_
          exact e_iret rfl trivial dX12_work_103 ⟨_, rfl, h⟩
        · replace h := h.2 c10
          refine e_bipush (v := (-4)) dX12_work_44 (by decide) ?_
          exact e_iret rfl trivial dX12_work_46 ⟨_, rfl, h⟩
      · replace h := h.2 c9
        refine e_bipush (v := (-2)) dX12_work_32 (by decide) ?_
        exact e_iret rfl trivial dX12_work_34 ⟨_, rfl, h⟩
abbrev H_X12_chairs_5 (l : Launch) (q : Int32 → o_M → Prop) (v1 : Int32) (v2 : Int32) (v3 : Int32) (v4 : Int32) (M : o_M) : Prop := E_X12_chairs l q 5 [(0, rV (some 60)), (1, iV v1), (2, iV v2), (3, iV v3), (4, iV v4)] [] M 0 0
theorem w_X12_chairs (l : Launch) (p1 : Int32) (p2 : Int32) (M : o_M) (q : Int32 → o_M → Prop) (h : H_X12_chairs_5 l q p1 p2 0 0 M) : K_X12_chairs l [rV (some 60), iV p1, iV p2] M q := by
  refine o_ctr (ini := false) (by decide +kernel) rfl (fun z => by cases z) (Nat.le_of_ble_eq_true rfl) ?_
  show E_X12_chairs l q 0 [(0, rV (some 60)), (1, iV p1), (2, iV p2)] [] M 0 0
  refine e_iconst (v := 0) dX12_chairs_0 (by decide) ?_
  refine e_istore_n (lv' := [(3, iV 0), (0, rV (some 60)), (1, iV p1), (2, iV p2)]) dX12_chairs_1 rfl (by decide) rfl ?_
  refine e_iconst (v := 0) dX12_chairs_2 (by decide) ?_
  refine e_istore (lv' := [(4, iV 0), (3, iV 0), (0, rV (some 60)), (1, iV p1), (2, iV p2)]) (by decide) rfl dX12_chairs_3 ?_
  exact e_lv (List.forall_mem_cons.mpr ⟨rfl, List.forall_mem_cons.mpr ⟨rfl, List.forall_mem_cons.mpr ⟨rfl, List.forall_mem_cons.mpr ⟨rfl, List.forall_mem_cons.mpr ⟨rfl, fun _ h => absurd h List.not_mem_nil⟩⟩⟩⟩⟩) h
theorem w_X12_chairs_5 (l : Launch) (q : Int32 → o_M → Prop) (v1 : Int32) (v2 : Int32) (v3 : Int32) (v4 : Int32) (M : o_M) (h : ((6 ≤ v4 → q v3 M) ∧ (¬ 6 ≤ v4 → K_X12_need l [rV (some 60), iV v1, iV v4, iV v2] M (fun r3 M2 => H_X12_chairs_5 l q v1 v2 (v3 + r3) (v4 + 1) M2)))) : H_X12_chairs_5 l q v1 v2 v3 v4 M := by
  refine e_iload rfl dX12_chairs_5 ?_
  refine e_bipush (v := 6) dX12_chairs_7 (by decide) ?_
  refine e_ic_ge (tgt := 29) dX12_chairs_9 (by decide) (fun c1 => ?_) (fun c1 => ?_)
  · replace h := h.1 c1
    refine e_iload_n dX12_chairs_29 rfl rfl ?_
    exact e_iret rfl trivial dX12_chairs_30 ⟨_, rfl, h⟩
  · replace h := h.2 c1
    refine e_iload_n dX12_chairs_12 rfl rfl ?_
    refine e_aload_n dX12_chairs_13 rfl rfl ?_
    refine e_iload_n dX12_chairs_14 rfl rfl ?_
    refine e_iload rfl dX12_chairs_15 ?_
    refine e_iload_n dX12_chairs_17 rfl rfl ?_
    refine e_callV (As := [iV v1, iV v4, iV v2]) (st := [iV v3]) mt_X12_need in_X12_need lkX12_189 rfl rfl ⟨by decide, by decide⟩ (Nat.le_of_ble_eq_true rfl) ⟨by decide, by decide⟩ rfl rfl dX12_chairs_18 (Ctr.mono h (fun v M2 h => ?_))
    obtain ⟨r3, rfl, h⟩ := h
    show E_X12_chairs l q 21 [(0, rV (some 60)), (1, iV v1), (2, iV v2), (3, iV v3), (4, iV v4)] [iV r3, iV v3] M2 0 0
    refine e_iadd dX12_chairs_21 ?_
    refine e_istore_n (lv' := [(3, iV (v3 + r3)), (0, rV (some 60)), (1, iV v1), (2, iV v2), (4, iV v4)]) dX12_chairs_22 rfl (by decide) rfl ?_
    refine e_iinc (v := 1) (lv' := [(4, iV (v4 + 1)), (3, iV (v3 + r3)), (0, rV (some 60)), (1, iV v1), (2, iV v2)]) rfl (by decide) (by decide) rfl dX12_chairs_23 ?_
    refine e_goto (tgt := 5) dX12_chairs_26 (by decide) ?_
    exact e_lv (List.forall_mem_cons.mpr ⟨rfl, List.forall_mem_cons.mpr ⟨rfl, List.forall_mem_cons.mpr ⟨rfl, List.forall_mem_cons.mpr ⟨rfl, List.forall_mem_cons.mpr ⟨rfl, fun _ h => absurd h List.not_mem_nil⟩⟩⟩⟩⟩) h
