theorem dX0_init_0 : decode cX0_init 0 = .ok (.aload_n 0, 1) := by decide +kernel
theorem dX0_init_1 : decode cX0_init 1 = .ok (.invokespecial 3, 3) := by decide +kernel
theorem dX0_init_4 : decode cX0_init 4 = .ok (.aload_n 0, 1) := by decide +kernel
theorem dX0_init_5 : decode cX0_init 5 = .ok (.iconst 0, 1) := by decide +kernel
theorem dX0_init_6 : decode cX0_init 6 = .ok (.putfield 9, 3) := by decide +kernel
theorem dX0_init_9 : decode cX0_init 9 = .ok (.aload_n 0, 1) := by decide +kernel
theorem dX0_init_10 : decode cX0_init 10 = .ok (.iconst 0, 1) := by decide +kernel
theorem dX0_init_11 : decode cX0_init 11 = .ok (.putfield 15, 3) := by decide +kernel
theorem dX0_init_14 : decode cX0_init 14 = .ok (.aload_n 0, 1) := by decide +kernel
theorem dX0_init_15 : decode cX0_init 15 = .ok (.iconst (-1), 1) := by decide +kernel
theorem dX0_init_16 : decode cX0_init 16 = .ok (.putfield 18, 3) := by decide +kernel
theorem dX0_init_19 : decode cX0_init 19 = .ok (.aload_n 0, 1) := by decide +kernel
theorem dX0_init_20 : decode cX0_init 20 = .ok (.iconst 3, 1) := by decide +kernel
theorem dX0_init_21 : decode cX0_init 21 = .ok (.iload_n 1, 1) := by decide +kernel
theorem dX0_init_22 : decode cX0_init 22 = .ok (.multianewarray 21 2, 4) := by decide +kernel
theorem dX0_init_26 : decode cX0_init 26 = .ok (.putfield 23, 3) := by decide +kernel
theorem dX0_init_29 : decode cX0_init 29 = .ok (.aload_n 0, 1) := by decide +kernel
theorem dX0_init_30 : decode cX0_init 30 = .ok (.iload_n 1, 1) := by decide +kernel
theorem dX0_init_31 : decode cX0_init 31 = .ok (.newarray .int, 2) := by decide +kernel
theorem dX0_init_33 : decode cX0_init 33 = .ok (.putfield 26, 3) := by decide +kernel
theorem dX0_init_36 : decode cX0_init 36 = .ok (.aload_n 0, 1) := by decide +kernel
theorem dX0_init_37 : decode cX0_init 37 = .ok (.iload_n 1, 1) := by decide +kernel
theorem dX0_init_38 : decode cX0_init 38 = .ok (.newarray .int, 2) := by decide +kernel
theorem dX0_init_40 : decode cX0_init 40 = .ok (.putfield 30, 3) := by decide +kernel
theorem dX0_init_43 : decode cX0_init 43 = .ok (.return_, 1) := by decide +kernel
theorem dX0_empty_0 : decode cX0_empty 0 = .ok (.aload_n 0, 1) := by decide +kernel
theorem dX0_empty_1 : decode cX0_empty 1 = .ok (.iconst 0, 1) := by decide +kernel
theorem dX0_empty_2 : decode cX0_empty 2 = .ok (.putfield 9, 3) := by decide +kernel
theorem dX0_empty_5 : decode cX0_empty 5 = .ok (.aload_n 0, 1) := by decide +kernel
theorem dX0_empty_6 : decode cX0_empty 6 = .ok (.iconst 0, 1) := by decide +kernel
theorem dX0_empty_7 : decode cX0_empty 7 = .ok (.putfield 15, 3) := by decide +kernel
theorem dX0_empty_10 : decode cX0_empty 10 = .ok (.aload_n 0, 1) := by decide +kernel
theorem dX0_empty_11 : decode cX0_empty 11 = .ok (.iconst (-1), 1) := by decide +kernel
theorem dX0_empty_12 : decode cX0_empty 12 = .ok (.putfield 18, 3) := by decide +kernel
theorem dX0_empty_15 : decode cX0_empty 15 = .ok (.return_, 1) := by decide +kernel
theorem dX0_isFull_0 : decode cX0_isFull 0 = .ok (.aload_n 0, 1) := by decide +kernel
theorem dX0_isFull_1 : decode cX0_isFull 1 = .ok (.getfield 9, 3) := by decide +kernel
theorem dX0_isFull_4 : decode cX0_isFull 4 = .ok (.aload_n 0, 1) := by decide +kernel
theorem dX0_isFull_5 : decode cX0_isFull 5 = .ok (.getfield 26, 3) := by decide +kernel
theorem dX0_isFull_8 : decode cX0_isFull 8 = .ok (.arraylength, 1) := by decide +kernel
theorem dX0_isFull_9 : decode cX0_isFull 9 = .ok (.if_icmp .lt 7, 3) := by decide +kernel
theorem dX0_isFull_12 : decode cX0_isFull 12 = .ok (.iconst 1, 1) := by decide +kernel
theorem dX0_isFull_13 : decode cX0_isFull 13 = .ok (.goto 4, 3) := by decide +kernel
theorem dX0_isFull_16 : decode cX0_isFull 16 = .ok (.iconst 0, 1) := by decide +kernel
theorem dX0_isFull_17 : decode cX0_isFull 17 = .ok (.ireturn, 1) := by decide +kernel
theorem dX0_hasEvent_0 : decode cX0_hasEvent 0 = .ok (.iload_n 1, 1) := by decide +kernel
theorem dX0_hasEvent_1 : decode cX0_hasEvent 1 = .ok (.ifCond .lt 15, 3) := by decide +kernel
theorem dX0_hasEvent_4 : decode cX0_hasEvent 4 = .ok (.iload_n 1, 1) := by decide +kernel
theorem dX0_hasEvent_5 : decode cX0_hasEvent 5 = .ok (.aload_n 0, 1) := by decide +kernel
theorem dX0_hasEvent_6 : decode cX0_hasEvent 6 = .ok (.getfield 9, 3) := by decide +kernel
theorem dX0_hasEvent_9 : decode cX0_hasEvent 9 = .ok (.if_icmp .ge 7, 3) := by decide +kernel
theorem dX0_hasEvent_12 : decode cX0_hasEvent 12 = .ok (.iconst 1, 1) := by decide +kernel
theorem dX0_hasEvent_13 : decode cX0_hasEvent 13 = .ok (.goto 4, 3) := by decide +kernel
theorem dX0_hasEvent_16 : decode cX0_hasEvent 16 = .ok (.iconst 0, 1) := by decide +kernel
theorem dX0_hasEvent_17 : decode cX0_hasEvent 17 = .ok (.ireturn, 1) := by decide +kernel
theorem dX0_isThere_0 : decode cX0_isThere 0 = .ok (.aload_n 0, 1) := by decide +kernel
theorem dX0_isThere_1 : decode cX0_isThere 1 = .ok (.iload_n 1, 1) := by decide +kernel
theorem dX0_isThere_2 : decode cX0_isThere 2 = .ok (.invokevirtual 33, 3) := by decide +kernel
theorem dX0_isThere_5 : decode cX0_isThere 5 = .ok (.ifCond .eq 27, 3) := by decide +kernel
theorem dX0_isThere_8 : decode cX0_isThere 8 = .ok (.aload_n 0, 1) := by decide +kernel
theorem dX0_isThere_9 : decode cX0_isThere 9 = .ok (.getfield 26, 3) := by decide +kernel
theorem dX0_isThere_12 : decode cX0_isThere 12 = .ok (.iload_n 1, 1) := by decide +kernel
theorem dX0_isThere_13 : decode cX0_isThere 13 = .ok (.iaload, 1) := by decide +kernel
theorem dX0_isThere_14 : decode cX0_isThere 14 = .ok (.iload_n 2, 1) := by decide +kernel
theorem dX0_isThere_15 : decode cX0_isThere 15 = .ok (.if_icmp .gt 17, 3) := by decide +kernel
theorem dX0_isThere_18 : decode cX0_isThere 18 = .ok (.iload_n 2, 1) := by decide +kernel
theorem dX0_isThere_19 : decode cX0_isThere 19 = .ok (.aload_n 0, 1) := by decide +kernel
theorem dX0_isThere_20 : decode cX0_isThere 20 = .ok (.getfield 30, 3) := by decide +kernel
theorem dX0_isThere_23 : decode cX0_isThere 23 = .ok (.iload_n 1, 1) := by decide +kernel
theorem dX0_isThere_24 : decode cX0_isThere 24 = .ok (.iaload, 1) := by decide +kernel
theorem dX0_isThere_25 : decode cX0_isThere 25 = .ok (.if_icmp .ge 7, 3) := by decide +kernel
theorem dX0_isThere_28 : decode cX0_isThere 28 = .ok (.iconst 1, 1) := by decide +kernel
theorem dX0_isThere_29 : decode cX0_isThere 29 = .ok (.goto 4, 3) := by decide +kernel
theorem dX0_isThere_32 : decode cX0_isThere 32 = .ok (.iconst 0, 1) := by decide +kernel
theorem dX0_isThere_33 : decode cX0_isThere 33 = .ok (.ireturn, 1) := by decide +kernel
theorem dX0_termAt_0 : decode cX0_termAt 0 = .ok (.iload_n 1, 1) := by decide +kernel
theorem dX0_termAt_1 : decode cX0_termAt 1 = .ok (.invokestatic 37, 3) := by decide +kernel
theorem dX0_termAt_4 : decode cX0_termAt 4 = .ok (.ifCond .eq 20, 3) := by decide +kernel
theorem dX0_termAt_7 : decode cX0_termAt 7 = .ok (.iload_n 2, 1) := by decide +kernel
theorem dX0_termAt_8 : decode cX0_termAt 8 = .ok (.ifCond .lt 16, 3) := by decide +kernel
theorem dX0_termAt_11 : decode cX0_termAt 11 = .ok (.iload_n 2, 1) := by decide +kernel
theorem dX0_termAt_12 : decode cX0_termAt 12 = .ok (.iconst 2, 1) := by decide +kernel
theorem dX0_termAt_13 : decode cX0_termAt 13 = .ok (.if_icmp .gt 11, 3) := by decide +kernel
theorem dX0_termAt_16 : decode cX0_termAt 16 = .ok (.aload_n 0, 1) := by decide +kernel
theorem dX0_termAt_17 : decode cX0_termAt 17 = .ok (.iload_n 3, 1) := by decide +kernel
theorem dX0_termAt_18 : decode cX0_termAt 18 = .ok (.invokevirtual 33, 3) := by decide +kernel
theorem dX0_termAt_21 : decode cX0_termAt 21 = .ok (.ifCond .ne 5, 3) := by decide +kernel
theorem dX0_termAt_24 : decode cX0_termAt 24 = .ok (.iconst (-1), 1) := by decide +kernel
theorem dX0_termAt_25 : decode cX0_termAt 25 = .ok (.ireturn, 1) := by decide +kernel
theorem dX0_termAt_26 : decode cX0_termAt 26 = .ok (.aload_n 0, 1) := by decide +kernel
theorem dX0_termAt_27 : decode cX0_termAt 27 = .ok (.getfield 23, 3) := by decide +kernel
theorem dX0_termAt_30 : decode cX0_termAt 30 = .ok (.getstatic 40, 3) := by decide +kernel
theorem dX0_termAt_33 : decode cX0_termAt 33 = .ok (.iload_n 1, 1) := by decide +kernel
theorem dX0_termAt_34 : decode cX0_termAt 34 = .ok (.iconst 3, 1) := by decide +kernel
theorem dX0_termAt_35 : decode cX0_termAt 35 = .ok (.imul, 1) := by decide +kernel
theorem dX0_termAt_36 : decode cX0_termAt 36 = .ok (.iload_n 2, 1) := by decide +kernel
theorem dX0_termAt_37 : decode cX0_termAt 37 = .ok (.iadd, 1) := by decide +kernel
theorem dX0_termAt_38 : decode cX0_termAt 38 = .ok (.iaload, 1) := by decide +kernel
theorem dX0_termAt_39 : decode cX0_termAt 39 = .ok (.aaload, 1) := by decide +kernel
theorem dX0_termAt_40 : decode cX0_termAt 40 = .ok (.iload_n 3, 1) := by decide +kernel
theorem dX0_termAt_41 : decode cX0_termAt 41 = .ok (.iaload, 1) := by decide +kernel
theorem dX0_termAt_42 : decode cX0_termAt 42 = .ok (.ireturn, 1) := by decide +kernel
theorem dX0_keyOfEvent_0 : decode cX0_keyOfEvent 0 = .ok (.aload_n 0, 1) := by decide +kernel
theorem dX0_keyOfEvent_1 : decode cX0_keyOfEvent 1 = .ok (.iload_n 2, 1) := by decide +kernel
theorem dX0_keyOfEvent_2 : decode cX0_keyOfEvent 2 = .ok (.invokevirtual 33, 3) := by decide +kernel
theorem dX0_keyOfEvent_5 : decode cX0_keyOfEvent 5 = .ok (.ifCond .eq 34, 3) := by decide +kernel
theorem dX0_keyOfEvent_8 : decode cX0_keyOfEvent 8 = .ok (.iload_n 1, 1) := by decide +kernel
theorem dX0_keyOfEvent_9 : decode cX0_keyOfEvent 9 = .ok (.aload_n 0, 1) := by decide +kernel
theorem dX0_keyOfEvent_10 : decode cX0_keyOfEvent 10 = .ok (.getfield 23, 3) := by decide +kernel
theorem dX0_keyOfEvent_13 : decode cX0_keyOfEvent 13 = .ok (.iconst 0, 1) := by decide +kernel
theorem dX0_keyOfEvent_14 : decode cX0_keyOfEvent 14 = .ok (.aaload, 1) := by decide +kernel
theorem dX0_keyOfEvent_15 : decode cX0_keyOfEvent 15 = .ok (.iload_n 2, 1) := by decide +kernel
theorem dX0_keyOfEvent_16 : decode cX0_keyOfEvent 16 = .ok (.iaload, 1) := by decide +kernel
theorem dX0_keyOfEvent_17 : decode cX0_keyOfEvent 17 = .ok (.aload_n 0, 1) := by decide +kernel
theorem dX0_keyOfEvent_18 : decode cX0_keyOfEvent 18 = .ok (.getfield 23, 3) := by decide +kernel
theorem dX0_keyOfEvent_21 : decode cX0_keyOfEvent 21 = .ok (.iconst 1, 1) := by decide +kernel
theorem dX0_keyOfEvent_22 : decode cX0_keyOfEvent 22 = .ok (.aaload, 1) := by decide +kernel
theorem dX0_keyOfEvent_23 : decode cX0_keyOfEvent 23 = .ok (.iload_n 2, 1) := by decide +kernel
theorem dX0_keyOfEvent_24 : decode cX0_keyOfEvent 24 = .ok (.iaload, 1) := by decide +kernel
theorem dX0_keyOfEvent_25 : decode cX0_keyOfEvent 25 = .ok (.aload_n 0, 1) := by decide +kernel
theorem dX0_keyOfEvent_26 : decode cX0_keyOfEvent 26 = .ok (.getfield 23, 3) := by decide +kernel
theorem dX0_keyOfEvent_29 : decode cX0_keyOfEvent 29 = .ok (.iconst 2, 1) := by decide +kernel
theorem dX0_keyOfEvent_30 : decode cX0_keyOfEvent 30 = .ok (.aaload, 1) := by decide +kernel
theorem dX0_keyOfEvent_31 : decode cX0_keyOfEvent 31 = .ok (.iload_n 2, 1) := by decide +kernel
theorem dX0_keyOfEvent_32 : decode cX0_keyOfEvent 32 = .ok (.iaload, 1) := by decide +kernel
theorem dX0_keyOfEvent_33 : decode cX0_keyOfEvent 33 = .ok (.invokestatic 43, 3) := by decide +kernel
theorem dX0_keyOfEvent_36 : decode cX0_keyOfEvent 36 = .ok (.goto 4, 3) := by decide +kernel
theorem dX0_keyOfEvent_39 : decode cX0_keyOfEvent 39 = .ok (.iconst (-1), 1) := by decide +kernel
theorem dX0_keyOfEvent_40 : decode cX0_keyOfEvent 40 = .ok (.ireturn, 1) := by decide +kernel
theorem dX0_writeComing_0 : decode cX0_writeComing 0 = .ok (.aload_n 0, 1) := by decide +kernel
theorem dX0_writeComing_1 : decode cX0_writeComing 1 = .ok (.iload_n 1, 1) := by decide +kernel
theorem dX0_writeComing_2 : decode cX0_writeComing 2 = .ok (.iload_n 2, 1) := by decide +kernel
theorem dX0_writeComing_3 : decode cX0_writeComing 3 = .ok (.iload_n 3, 1) := by decide +kernel
theorem dX0_writeComing_4 : decode cX0_writeComing 4 = .ok (.iload 4, 2) := by decide +kernel
theorem dX0_writeComing_6 : decode cX0_writeComing 6 = .ok (.ldc 47, 2) := by decide +kernel
theorem dX0_writeComing_8 : decode cX0_writeComing 8 = .ok (.invokevirtual 48, 3) := by decide +kernel
theorem dX0_writeComing_11 : decode cX0_writeComing 11 = .ok (.return_, 1) := by decide +kernel
theorem dX0_writeGoing_0 : decode cX0_writeGoing 0 = .ok (.aload_n 0, 1) := by decide +kernel
theorem dX0_writeGoing_1 : decode cX0_writeGoing 1 = .ok (.getfield 9, 3) := by decide +kernel
theorem dX0_writeGoing_4 : decode cX0_writeGoing 4 = .ok (.iconst 1, 1) := by decide +kernel
theorem dX0_writeGoing_5 : decode cX0_writeGoing 5 = .ok (.isub, 1) := by decide +kernel
theorem dX0_writeGoing_6 : decode cX0_writeGoing 6 = .ok (.istore 5, 2) := by decide +kernel
theorem dX0_writeGoing_8 : decode cX0_writeGoing 8 = .ok (.iload 5, 2) := by decide +kernel
theorem dX0_writeGoing_10 : decode cX0_writeGoing 10 = .ok (.ifCond .lt 45, 3) := by decide +kernel
theorem dX0_writeGoing_13 : decode cX0_writeGoing 13 = .ok (.aload_n 0, 1) := by decide +kernel
theorem dX0_writeGoing_14 : decode cX0_writeGoing 14 = .ok (.getfield 30, 3) := by decide +kernel
theorem dX0_writeGoing_17 : decode cX0_writeGoing 17 = .ok (.iload 5, 2) := by decide +kernel
theorem dX0_writeGoing_19 : decode cX0_writeGoing 19 = .ok (.iaload, 1) := by decide +kernel
theorem dX0_writeGoing_20 : decode cX0_writeGoing 20 = .ok (.ldc 47, 2) := by decide +kernel
theorem dX0_writeGoing_22 : decode cX0_writeGoing 22 = .ok (.if_icmp .ne 27, 3) := by decide +kernel
theorem dX0_writeGoing_25 : decode cX0_writeGoing 25 = .ok (.aload_n 0, 1) := by decide +kernel
theorem dX0_writeGoing_26 : decode cX0_writeGoing 26 = .ok (.iload 5, 2) := by decide +kernel
theorem dX0_writeGoing_28 : decode cX0_writeGoing 28 = .ok (.iload_n 1, 1) := by decide +kernel
theorem dX0_writeGoing_29 : decode cX0_writeGoing 29 = .ok (.iload_n 2, 1) := by decide +kernel
theorem dX0_writeGoing_30 : decode cX0_writeGoing 30 = .ok (.iload_n 3, 1) := by decide +kernel
theorem dX0_writeGoing_31 : decode cX0_writeGoing 31 = .ok (.invokevirtual 52, 3) := by decide +kernel
theorem dX0_writeGoing_34 : decode cX0_writeGoing 34 = .ok (.ifCond .eq 15, 3) := by decide +kernel
theorem dX0_writeGoing_37 : decode cX0_writeGoing 37 = .ok (.aload_n 0, 1) := by decide +kernel
theorem dX0_writeGoing_38 : decode cX0_writeGoing 38 = .ok (.getfield 30, 3) := by decide +kernel
theorem dX0_writeGoing_41 : decode cX0_writeGoing 41 = .ok (.iload 5, 2) := by decide +kernel
theorem dX0_writeGoing_43 : decode cX0_writeGoing 43 = .ok (.iload 4, 2) := by decide +kernel
theorem dX0_writeGoing_45 : decode cX0_writeGoing 45 = .ok (.iastore, 1) := by decide +kernel
theorem dX0_writeGoing_46 : decode cX0_writeGoing 46 = .ok (.goto 9, 3) := by decide +kernel
theorem dX0_writeGoing_49 : decode cX0_writeGoing 49 = .ok (.iinc 5 (-1), 3) := by decide +kernel
theorem dX0_writeGoing_52 : decode cX0_writeGoing 52 = .ok (.goto (-44), 3) := by decide +kernel
theorem dX0_writeGoing_55 : decode cX0_writeGoing 55 = .ok (.aload_n 0, 1) := by decide +kernel
theorem dX0_writeGoing_56 : decode cX0_writeGoing 56 = .ok (.iload_n 1, 1) := by decide +kernel
theorem dX0_writeGoing_57 : decode cX0_writeGoing 57 = .ok (.iload_n 2, 1) := by decide +kernel
theorem dX0_writeGoing_58 : decode cX0_writeGoing 58 = .ok (.iload_n 3, 1) := by decide +kernel
theorem dX0_writeGoing_59 : decode cX0_writeGoing 59 = .ok (.iload 4, 2) := by decide +kernel
theorem dX0_writeGoing_61 : decode cX0_writeGoing 61 = .ok (.iload 4, 2) := by decide +kernel
theorem dX0_writeGoing_63 : decode cX0_writeGoing 63 = .ok (.invokevirtual 48, 3) := by decide +kernel
theorem dX0_writeGoing_66 : decode cX0_writeGoing 66 = .ok (.return_, 1) := by decide +kernel
theorem dX0_isOf_0 : decode cX0_isOf 0 = .ok (.aload_n 0, 1) := by decide +kernel
theorem dX0_isOf_1 : decode cX0_isOf 1 = .ok (.getfield 23, 3) := by decide +kernel
theorem dX0_isOf_4 : decode cX0_isOf 4 = .ok (.iconst 0, 1) := by decide +kernel
theorem dX0_isOf_5 : decode cX0_isOf 5 = .ok (.aaload, 1) := by decide +kernel
theorem dX0_isOf_6 : decode cX0_isOf 6 = .ok (.iload_n 1, 1) := by decide +kernel
theorem dX0_isOf_7 : decode cX0_isOf 7 = .ok (.iaload, 1) := by decide +kernel
theorem dX0_isOf_8 : decode cX0_isOf 8 = .ok (.iload_n 2, 1) := by decide +kernel
theorem dX0_isOf_9 : decode cX0_isOf 9 = .ok (.if_icmp .ne 32, 3) := by decide +kernel
theorem dX0_isOf_12 : decode cX0_isOf 12 = .ok (.aload_n 0, 1) := by decide +kernel
theorem dX0_isOf_13 : decode cX0_isOf 13 = .ok (.getfield 23, 3) := by decide +kernel
theorem dX0_isOf_16 : decode cX0_isOf 16 = .ok (.iconst 1, 1) := by decide +kernel
theorem dX0_isOf_17 : decode cX0_isOf 17 = .ok (.aaload, 1) := by decide +kernel
theorem dX0_isOf_18 : decode cX0_isOf 18 = .ok (.iload_n 1, 1) := by decide +kernel
theorem dX0_isOf_19 : decode cX0_isOf 19 = .ok (.iaload, 1) := by decide +kernel
theorem dX0_isOf_20 : decode cX0_isOf 20 = .ok (.iload_n 3, 1) := by decide +kernel
theorem dX0_isOf_21 : decode cX0_isOf 21 = .ok (.if_icmp .ne 20, 3) := by decide +kernel
theorem dX0_isOf_24 : decode cX0_isOf 24 = .ok (.aload_n 0, 1) := by decide +kernel
theorem dX0_isOf_25 : decode cX0_isOf 25 = .ok (.getfield 23, 3) := by decide +kernel
theorem dX0_isOf_28 : decode cX0_isOf 28 = .ok (.iconst 2, 1) := by decide +kernel
theorem dX0_isOf_29 : decode cX0_isOf 29 = .ok (.aaload, 1) := by decide +kernel
theorem dX0_isOf_30 : decode cX0_isOf 30 = .ok (.iload_n 1, 1) := by decide +kernel
theorem dX0_isOf_31 : decode cX0_isOf 31 = .ok (.iaload, 1) := by decide +kernel
theorem dX0_isOf_32 : decode cX0_isOf 32 = .ok (.iload 4, 2) := by decide +kernel
theorem dX0_isOf_34 : decode cX0_isOf 34 = .ok (.if_icmp .ne 7, 3) := by decide +kernel
theorem dX0_isOf_37 : decode cX0_isOf 37 = .ok (.iconst 1, 1) := by decide +kernel
theorem dX0_isOf_38 : decode cX0_isOf 38 = .ok (.goto 4, 3) := by decide +kernel
theorem dX0_isOf_41 : decode cX0_isOf 41 = .ok (.iconst 0, 1) := by decide +kernel
theorem dX0_isOf_42 : decode cX0_isOf 42 = .ok (.ireturn, 1) := by decide +kernel
theorem dX0_write_0 : decode cX0_write 0 = .ok (.aload_n 0, 1) := by decide +kernel
theorem dX0_write_1 : decode cX0_write 1 = .ok (.invokevirtual 56, 3) := by decide +kernel
theorem dX0_write_4 : decode cX0_write 4 = .ok (.ifCond .eq 4, 3) := by decide +kernel
theorem dX0_write_7 : decode cX0_write 7 = .ok (.return_, 1) := by decide +kernel
theorem dX0_write_8 : decode cX0_write 8 = .ok (.aload_n 0, 1) := by decide +kernel
theorem dX0_write_9 : decode cX0_write 9 = .ok (.getfield 23, 3) := by decide +kernel
theorem dX0_write_12 : decode cX0_write 12 = .ok (.iconst 0, 1) := by decide +kernel
theorem dX0_write_13 : decode cX0_write 13 = .ok (.aaload, 1) := by decide +kernel
theorem dX0_write_14 : decode cX0_write 14 = .ok (.aload_n 0, 1) := by decide +kernel
theorem dX0_write_15 : decode cX0_write 15 = .ok (.getfield 9, 3) := by decide +kernel
theorem dX0_write_18 : decode cX0_write 18 = .ok (.iload_n 1, 1) := by decide +kernel
theorem dX0_write_19 : decode cX0_write 19 = .ok (.iastore, 1) := by decide +kernel
theorem dX0_write_20 : decode cX0_write 20 = .ok (.aload_n 0, 1) := by decide +kernel
theorem dX0_write_21 : decode cX0_write 21 = .ok (.getfield 23, 3) := by decide +kernel
theorem dX0_write_24 : decode cX0_write 24 = .ok (.iconst 1, 1) := by decide +kernel
theorem dX0_write_25 : decode cX0_write 25 = .ok (.aaload, 1) := by decide +kernel
theorem dX0_write_26 : decode cX0_write 26 = .ok (.aload_n 0, 1) := by decide +kernel
theorem dX0_write_27 : decode cX0_write 27 = .ok (.getfield 9, 3) := by decide +kernel
theorem dX0_write_30 : decode cX0_write 30 = .ok (.iload_n 2, 1) := by decide +kernel
theorem dX0_write_31 : decode cX0_write 31 = .ok (.iastore, 1) := by decide +kernel
theorem dX0_write_32 : decode cX0_write 32 = .ok (.aload_n 0, 1) := by decide +kernel
theorem dX0_write_33 : decode cX0_write 33 = .ok (.getfield 23, 3) := by decide +kernel
theorem dX0_write_36 : decode cX0_write 36 = .ok (.iconst 2, 1) := by decide +kernel
theorem dX0_write_37 : decode cX0_write 37 = .ok (.aaload, 1) := by decide +kernel
theorem dX0_write_38 : decode cX0_write 38 = .ok (.aload_n 0, 1) := by decide +kernel
theorem dX0_write_39 : decode cX0_write 39 = .ok (.getfield 9, 3) := by decide +kernel
theorem dX0_write_42 : decode cX0_write 42 = .ok (.iload_n 3, 1) := by decide +kernel
theorem dX0_write_43 : decode cX0_write 43 = .ok (.iastore, 1) := by decide +kernel
theorem dX0_write_44 : decode cX0_write 44 = .ok (.aload_n 0, 1) := by decide +kernel
theorem dX0_write_45 : decode cX0_write 45 = .ok (.getfield 26, 3) := by decide +kernel
theorem dX0_write_48 : decode cX0_write 48 = .ok (.aload_n 0, 1) := by decide +kernel
theorem dX0_write_49 : decode cX0_write 49 = .ok (.getfield 9, 3) := by decide +kernel
theorem dX0_write_52 : decode cX0_write 52 = .ok (.iload 4, 2) := by decide +kernel
theorem dX0_write_54 : decode cX0_write 54 = .ok (.iastore, 1) := by decide +kernel
theorem dX0_write_55 : decode cX0_write 55 = .ok (.aload_n 0, 1) := by decide +kernel
theorem dX0_write_56 : decode cX0_write 56 = .ok (.getfield 30, 3) := by decide +kernel
theorem dX0_write_59 : decode cX0_write 59 = .ok (.aload_n 0, 1) := by decide +kernel
theorem dX0_write_60 : decode cX0_write 60 = .ok (.getfield 9, 3) := by decide +kernel
theorem dX0_write_63 : decode cX0_write 63 = .ok (.iload 5, 2) := by decide +kernel
theorem dX0_write_65 : decode cX0_write 65 = .ok (.iastore, 1) := by decide +kernel
theorem dX0_write_66 : decode cX0_write 66 = .ok (.aload_n 0, 1) := by decide +kernel
theorem dX0_write_67 : decode cX0_write 67 = .ok (.dup, 1) := by decide +kernel
theorem dX0_write_68 : decode cX0_write 68 = .ok (.getfield 9, 3) := by decide +kernel
theorem dX0_write_71 : decode cX0_write 71 = .ok (.iconst 1, 1) := by decide +kernel
theorem dX0_write_72 : decode cX0_write 72 = .ok (.iadd, 1) := by decide +kernel
theorem dX0_write_73 : decode cX0_write 73 = .ok (.putfield 9, 3) := by decide +kernel
theorem dX0_write_76 : decode cX0_write 76 = .ok (.aload_n 0, 1) := by decide +kernel
theorem dX0_write_77 : decode cX0_write 77 = .ok (.iload 4, 2) := by decide +kernel
theorem dX0_write_79 : decode cX0_write 79 = .ok (.putfield 15, 3) := by decide +kernel
theorem dX0_write_82 : decode cX0_write 82 = .ok (.return_, 1) := by decide +kernel
theorem dX0_cutAt_0 : decode cX0_cutAt 0 = .ok (.iconst 0, 1) := by decide +kernel
theorem dX0_cutAt_1 : decode cX0_cutAt 1 = .ok (.istore_n 2, 1) := by decide +kernel
theorem dX0_cutAt_2 : decode cX0_cutAt 2 = .ok (.iconst 0, 1) := by decide +kernel
theorem dX0_cutAt_3 : decode cX0_cutAt 3 = .ok (.istore_n 3, 1) := by decide +kernel
theorem dX0_cutAt_4 : decode cX0_cutAt 4 = .ok (.iload_n 3, 1) := by decide +kernel
theorem dX0_cutAt_5 : decode cX0_cutAt 5 = .ok (.aload_n 0, 1) := by decide +kernel
theorem dX0_cutAt_6 : decode cX0_cutAt 6 = .ok (.getfield 9, 3) := by decide +kernel
theorem dX0_cutAt_9 : decode cX0_cutAt 9 = .ok (.if_icmp .ge 28, 3) := by decide +kernel
theorem dX0_cutAt_12 : decode cX0_cutAt 12 = .ok (.aload_n 0, 1) := by decide +kernel
theorem dX0_cutAt_13 : decode cX0_cutAt 13 = .ok (.getfield 30, 3) := by decide +kernel
theorem dX0_cutAt_16 : decode cX0_cutAt 16 = .ok (.iload_n 3, 1) := by decide +kernel
theorem dX0_cutAt_17 : decode cX0_cutAt 17 = .ok (.iaload, 1) := by decide +kernel
theorem dX0_cutAt_18 : decode cX0_cutAt 18 = .ok (.iload_n 1, 1) := by decide +kernel
theorem dX0_cutAt_19 : decode cX0_cutAt 19 = .ok (.if_icmp .le 12, 3) := by decide +kernel
theorem dX0_cutAt_22 : decode cX0_cutAt 22 = .ok (.aload_n 0, 1) := by decide +kernel
theorem dX0_cutAt_23 : decode cX0_cutAt 23 = .ok (.iload_n 3, 1) := by decide +kernel
theorem dX0_cutAt_24 : decode cX0_cutAt 24 = .ok (.iload_n 2, 1) := by decide +kernel
theorem dX0_cutAt_25 : decode cX0_cutAt 25 = .ok (.invokevirtual 60, 3) := by decide +kernel
theorem dX0_cutAt_28 : decode cX0_cutAt 28 = .ok (.iinc 2 1, 3) := by decide +kernel
theorem dX0_cutAt_31 : decode cX0_cutAt 31 = .ok (.iinc 3 1, 3) := by decide +kernel
theorem dX0_cutAt_34 : decode cX0_cutAt 34 = .ok (.goto (-30), 3) := by decide +kernel
theorem dX0_cutAt_37 : decode cX0_cutAt 37 = .ok (.aload_n 0, 1) := by decide +kernel
theorem dX0_cutAt_38 : decode cX0_cutAt 38 = .ok (.getfield 9, 3) := by decide +kernel
theorem dX0_cutAt_41 : decode cX0_cutAt 41 = .ok (.iload_n 2, 1) := by decide +kernel
theorem dX0_cutAt_42 : decode cX0_cutAt 42 = .ok (.isub, 1) := by decide +kernel
theorem dX0_cutAt_43 : decode cX0_cutAt 43 = .ok (.istore_n 3, 1) := by decide +kernel
theorem dX0_cutAt_44 : decode cX0_cutAt 44 = .ok (.aload_n 0, 1) := by decide +kernel
theorem dX0_cutAt_45 : decode cX0_cutAt 45 = .ok (.iload_n 2, 1) := by decide +kernel
theorem dX0_cutAt_46 : decode cX0_cutAt 46 = .ok (.putfield 9, 3) := by decide +kernel
theorem dX0_cutAt_49 : decode cX0_cutAt 49 = .ok (.aload_n 0, 1) := by decide +kernel
theorem dX0_cutAt_50 : decode cX0_cutAt 50 = .ok (.iload_n 1, 1) := by decide +kernel
theorem dX0_cutAt_51 : decode cX0_cutAt 51 = .ok (.putfield 18, 3) := by decide +kernel
theorem dX0_cutAt_54 : decode cX0_cutAt 54 = .ok (.aload_n 0, 1) := by decide +kernel
theorem dX0_cutAt_55 : decode cX0_cutAt 55 = .ok (.aload_n 0, 1) := by decide +kernel
theorem dX0_cutAt_56 : decode cX0_cutAt 56 = .ok (.getfield 15, 3) := by decide +kernel
theorem dX0_cutAt_59 : decode cX0_cutAt 59 = .ok (.iload_n 1, 1) := by decide +kernel
theorem dX0_cutAt_60 : decode cX0_cutAt 60 = .ok (.invokestatic 64, 3) := by decide +kernel
theorem dX0_cutAt_63 : decode cX0_cutAt 63 = .ok (.putfield 15, 3) := by decide +kernel
theorem dX0_cutAt_66 : decode cX0_cutAt 66 = .ok (.iload_n 3, 1) := by decide +kernel
theorem dX0_cutAt_67 : decode cX0_cutAt 67 = .ok (.ireturn, 1) := by decide +kernel
theorem dX0_move_0 : decode cX0_move 0 = .ok (.iconst 0, 1) := by decide +kernel
theorem dX0_move_1 : decode cX0_move 1 = .ok (.istore_n 3, 1) := by decide +kernel
theorem dX0_move_2 : decode cX0_move 2 = .ok (.iload_n 3, 1) := by decide +kernel
theorem dX0_move_3 : decode cX0_move 3 = .ok (.iconst 3, 1) := by decide +kernel
theorem dX0_move_4 : decode cX0_move 4 = .ok (.if_icmp .ge 25, 3) := by decide +kernel
theorem dX0_move_7 : decode cX0_move 7 = .ok (.aload_n 0, 1) := by decide +kernel
theorem dX0_move_8 : decode cX0_move 8 = .ok (.getfield 23, 3) := by decide +kernel
theorem dX0_move_11 : decode cX0_move 11 = .ok (.iload_n 3, 1) := by decide +kernel
theorem dX0_move_12 : decode cX0_move 12 = .ok (.aaload, 1) := by decide +kernel
theorem dX0_move_13 : decode cX0_move 13 = .ok (.iload_n 2, 1) := by decide +kernel
theorem dX0_move_14 : decode cX0_move 14 = .ok (.aload_n 0, 1) := by decide +kernel
theorem dX0_move_15 : decode cX0_move 15 = .ok (.getfield 23, 3) := by decide +kernel
theorem dX0_move_18 : decode cX0_move 18 = .ok (.iload_n 3, 1) := by decide +kernel
theorem dX0_move_19 : decode cX0_move 19 = .ok (.aaload, 1) := by decide +kernel
theorem dX0_move_20 : decode cX0_move 20 = .ok (.iload_n 1, 1) := by decide +kernel
theorem dX0_move_21 : decode cX0_move 21 = .ok (.iaload, 1) := by decide +kernel
theorem dX0_move_22 : decode cX0_move 22 = .ok (.iastore, 1) := by decide +kernel
theorem dX0_move_23 : decode cX0_move 23 = .ok (.iinc 3 1, 3) := by decide +kernel
theorem dX0_move_26 : decode cX0_move 26 = .ok (.goto (-24), 3) := by decide +kernel
theorem dX0_move_29 : decode cX0_move 29 = .ok (.aload_n 0, 1) := by decide +kernel
theorem dX0_move_30 : decode cX0_move 30 = .ok (.getfield 26, 3) := by decide +kernel
theorem dX0_move_33 : decode cX0_move 33 = .ok (.iload_n 2, 1) := by decide +kernel
theorem dX0_move_34 : decode cX0_move 34 = .ok (.aload_n 0, 1) := by decide +kernel
theorem dX0_move_35 : decode cX0_move 35 = .ok (.getfield 26, 3) := by decide +kernel
theorem dX0_move_38 : decode cX0_move 38 = .ok (.iload_n 1, 1) := by decide +kernel
theorem dX0_move_39 : decode cX0_move 39 = .ok (.iaload, 1) := by decide +kernel
theorem dX0_move_40 : decode cX0_move 40 = .ok (.iastore, 1) := by decide +kernel
theorem dX0_move_41 : decode cX0_move 41 = .ok (.aload_n 0, 1) := by decide +kernel
theorem dX0_move_42 : decode cX0_move 42 = .ok (.getfield 30, 3) := by decide +kernel
theorem dX0_move_45 : decode cX0_move 45 = .ok (.iload_n 2, 1) := by decide +kernel
theorem dX0_move_46 : decode cX0_move 46 = .ok (.aload_n 0, 1) := by decide +kernel
theorem dX0_move_47 : decode cX0_move 47 = .ok (.getfield 30, 3) := by decide +kernel
theorem dX0_move_50 : decode cX0_move 50 = .ok (.iload_n 1, 1) := by decide +kernel
theorem dX0_move_51 : decode cX0_move 51 = .ok (.iaload, 1) := by decide +kernel
theorem dX0_move_52 : decode cX0_move 52 = .ok (.iastore, 1) := by decide +kernel
theorem dX0_move_53 : decode cX0_move 53 = .ok (.return_, 1) := by decide +kernel
theorem dX1_init_0 : decode cX1_init 0 = .ok (.aload_n 0, 1) := by decide +kernel
theorem dX1_init_1 : decode cX1_init 1 = .ok (.invokespecial 1, 3) := by decide +kernel
theorem dX1_init_4 : decode cX1_init 4 = .ok (.aload_n 0, 1) := by decide +kernel
theorem dX1_init_5 : decode cX1_init 5 = .ok (.iconst 0, 1) := by decide +kernel
theorem dX1_init_6 : decode cX1_init 6 = .ok (.putfield 7, 3) := by decide +kernel
theorem dX1_init_9 : decode cX1_init 9 = .ok (.aload_n 0, 1) := by decide +kernel
theorem dX1_init_10 : decode cX1_init 10 = .ok (.new 13, 3) := by decide +kernel
theorem dX1_init_13 : decode cX1_init 13 = .ok (.dup, 1) := by decide +kernel
theorem dX1_init_14 : decode cX1_init 14 = .ok (.iload_n 1, 1) := by decide +kernel
theorem dX1_init_15 : decode cX1_init 15 = .ok (.invokespecial 15, 3) := by decide +kernel
theorem dX1_init_18 : decode cX1_init 18 = .ok (.putfield 18, 3) := by decide +kernel
theorem dX1_init_21 : decode cX1_init 21 = .ok (.aload_n 0, 1) := by decide +kernel
theorem dX1_init_22 : decode cX1_init 22 = .ok (.iload_n 1, 1) := by decide +kernel
theorem dX1_init_23 : decode cX1_init 23 = .ok (.newarray .int, 2) := by decide +kernel
theorem dX1_init_25 : decode cX1_init 25 = .ok (.putfield 22, 3) := by decide +kernel
theorem dX1_init_28 : decode cX1_init 28 = .ok (.return_, 1) := by decide +kernel
theorem dX1_empty_0 : decode cX1_empty 0 = .ok (.aload_n 0, 1) := by decide +kernel
theorem dX1_empty_1 : decode cX1_empty 1 = .ok (.getfield 18, 3) := by decide +kernel
theorem dX1_empty_4 : decode cX1_empty 4 = .ok (.invokevirtual 26, 3) := by decide +kernel
theorem dX1_empty_7 : decode cX1_empty 7 = .ok (.aload_n 0, 1) := by decide +kernel
theorem dX1_empty_8 : decode cX1_empty 8 = .ok (.iconst 0, 1) := by decide +kernel
theorem dX1_empty_9 : decode cX1_empty 9 = .ok (.putfield 7, 3) := by decide +kernel
theorem dX1_empty_12 : decode cX1_empty 12 = .ok (.return_, 1) := by decide +kernel
theorem dX1_hasPage_0 : decode cX1_hasPage 0 = .ok (.iload_n 1, 1) := by decide +kernel
theorem dX1_hasPage_1 : decode cX1_hasPage 1 = .ok (.ifCond .lt 15, 3) := by decide +kernel
theorem dX1_hasPage_4 : decode cX1_hasPage 4 = .ok (.iload_n 1, 1) := by decide +kernel
theorem dX1_hasPage_5 : decode cX1_hasPage 5 = .ok (.aload_n 0, 1) := by decide +kernel
theorem dX1_hasPage_6 : decode cX1_hasPage 6 = .ok (.getfield 7, 3) := by decide +kernel
theorem dX1_hasPage_9 : decode cX1_hasPage 9 = .ok (.if_icmp .ge 7, 3) := by decide +kernel
theorem dX1_hasPage_12 : decode cX1_hasPage 12 = .ok (.iconst 1, 1) := by decide +kernel
theorem dX1_hasPage_13 : decode cX1_hasPage 13 = .ok (.goto 4, 3) := by decide +kernel
theorem dX1_hasPage_16 : decode cX1_hasPage 16 = .ok (.iconst 0, 1) := by decide +kernel
theorem dX1_hasPage_17 : decode cX1_hasPage 17 = .ok (.ireturn, 1) := by decide +kernel
theorem dX1_lengthOf_0 : decode cX1_lengthOf 0 = .ok (.aload_n 0, 1) := by decide +kernel
theorem dX1_lengthOf_1 : decode cX1_lengthOf 1 = .ok (.iload_n 1, 1) := by decide +kernel
theorem dX1_lengthOf_2 : decode cX1_lengthOf 2 = .ok (.invokevirtual 29, 3) := by decide +kernel
theorem dX1_lengthOf_5 : decode cX1_lengthOf 5 = .ok (.ifCond .eq 12, 3) := by decide +kernel
theorem dX1_lengthOf_8 : decode cX1_lengthOf 8 = .ok (.aload_n 0, 1) := by decide +kernel
theorem dX1_lengthOf_9 : decode cX1_lengthOf 9 = .ok (.getfield 22, 3) := by decide +kernel
theorem dX1_lengthOf_12 : decode cX1_lengthOf 12 = .ok (.iload_n 1, 1) := by decide +kernel
theorem dX1_lengthOf_13 : decode cX1_lengthOf 13 = .ok (.iaload, 1) := by decide +kernel
theorem dX1_lengthOf_14 : decode cX1_lengthOf 14 = .ok (.goto 4, 3) := by decide +kernel
theorem dX1_lengthOf_17 : decode cX1_lengthOf 17 = .ok (.iconst 0, 1) := by decide +kernel
theorem dX1_lengthOf_18 : decode cX1_lengthOf 18 = .ok (.ireturn, 1) := by decide +kernel
theorem dX1_firstKey_0 : decode cX1_firstKey 0 = .ok (.aload_n 0, 1) := by decide +kernel
theorem dX1_firstKey_1 : decode cX1_firstKey 1 = .ok (.getfield 18, 3) := by decide +kernel
theorem dX1_firstKey_4 : decode cX1_firstKey 4 = .ok (.aload_n 0, 1) := by decide +kernel
theorem dX1_firstKey_5 : decode cX1_firstKey 5 = .ok (.iload_n 1, 1) := by decide +kernel
theorem dX1_firstKey_6 : decode cX1_firstKey 6 = .ok (.invokevirtual 33, 3) := by decide +kernel
theorem dX1_firstKey_9 : decode cX1_firstKey 9 = .ok (.invokevirtual 37, 3) := by decide +kernel
theorem dX1_firstKey_12 : decode cX1_firstKey 12 = .ok (.ireturn, 1) := by decide +kernel
theorem dX1_putIn_0 : decode cX1_putIn 0 = .ok (.aload_n 0, 1) := by decide +kernel
theorem dX1_putIn_1 : decode cX1_putIn 1 = .ok (.getfield 7, 3) := by decide +kernel
theorem dX1_putIn_4 : decode cX1_putIn 4 = .ok (.ifCond .ne 9, 3) := by decide +kernel
theorem dX1_putIn_7 : decode cX1_putIn 7 = .ok (.aload_n 0, 1) := by decide +kernel
theorem dX1_putIn_8 : decode cX1_putIn 8 = .ok (.iconst 0, 1) := by decide +kernel
theorem dX1_putIn_9 : decode cX1_putIn 9 = .ok (.iconst 0, 1) := by decide +kernel
theorem dX1_putIn_10 : decode cX1_putIn 10 = .ok (.invokevirtual 40, 3) := by decide +kernel
theorem dX1_putIn_13 : decode cX1_putIn 13 = .ok (.aload_n 0, 1) := by decide +kernel
theorem dX1_putIn_14 : decode cX1_putIn 14 = .ok (.aload_n 0, 1) := by decide +kernel
theorem dX1_putIn_15 : decode cX1_putIn 15 = .ok (.getfield 18, 3) := by decide +kernel
theorem dX1_putIn_18 : decode cX1_putIn 18 = .ok (.iload_n 1, 1) := by decide +kernel
theorem dX1_putIn_19 : decode cX1_putIn 19 = .ok (.invokevirtual 44, 3) := by decide +kernel
theorem dX1_putIn_22 : decode cX1_putIn 22 = .ok (.iconst 1, 1) := by decide +kernel
theorem dX1_putIn_23 : decode cX1_putIn 23 = .ok (.isub, 1) := by decide +kernel
theorem dX1_putIn_24 : decode cX1_putIn 24 = .ok (.invokevirtual 47, 3) := by decide +kernel
theorem dX1_putIn_27 : decode cX1_putIn 27 = .ok (.istore_n 2, 1) := by decide +kernel
theorem dX1_putIn_28 : decode cX1_putIn 28 = .ok (.aload_n 0, 1) := by decide +kernel
theorem dX1_putIn_29 : decode cX1_putIn 29 = .ok (.getfield 18, 3) := by decide +kernel
theorem dX1_putIn_32 : decode cX1_putIn 32 = .ok (.iload_n 1, 1) := by decide +kernel
theorem dX1_putIn_33 : decode cX1_putIn 33 = .ok (.invokevirtual 50, 3) := by decide +kernel
theorem dX1_putIn_36 : decode cX1_putIn 36 = .ok (.aload_n 0, 1) := by decide +kernel
theorem dX1_putIn_37 : decode cX1_putIn 37 = .ok (.iload_n 2, 1) := by decide +kernel
theorem dX1_putIn_38 : decode cX1_putIn 38 = .ok (.invokevirtual 29, 3) := by decide +kernel
theorem dX1_putIn_41 : decode cX1_putIn 41 = .ok (.ifCond .ne 4, 3) := by decide +kernel
theorem dX1_putIn_44 : decode cX1_putIn 44 = .ok (.return_, 1) := by decide +kernel
theorem dX1_putIn_45 : decode cX1_putIn 45 = .ok (.aload_n 0, 1) := by decide +kernel
theorem dX1_putIn_46 : decode cX1_putIn 46 = .ok (.getfield 22, 3) := by decide +kernel
theorem dX1_putIn_49 : decode cX1_putIn 49 = .ok (.iload_n 2, 1) := by decide +kernel
theorem dX1_putIn_50 : decode cX1_putIn 50 = .ok (.dup2, 1) := by decide +kernel
theorem dX1_putIn_51 : decode cX1_putIn 51 = .ok (.iaload, 1) := by decide +kernel
theorem dX1_putIn_52 : decode cX1_putIn 52 = .ok (.iconst 1, 1) := by decide +kernel
theorem dX1_putIn_53 : decode cX1_putIn 53 = .ok (.iadd, 1) := by decide +kernel
theorem dX1_putIn_54 : decode cX1_putIn 54 = .ok (.iastore, 1) := by decide +kernel
theorem dX1_putIn_55 : decode cX1_putIn 55 = .ok (.aload_n 0, 1) := by decide +kernel
theorem dX1_putIn_56 : decode cX1_putIn 56 = .ok (.getfield 22, 3) := by decide +kernel
theorem dX1_putIn_59 : decode cX1_putIn 59 = .ok (.iload_n 2, 1) := by decide +kernel
theorem dX1_putIn_60 : decode cX1_putIn 60 = .ok (.iaload, 1) := by decide +kernel
theorem dX1_putIn_61 : decode cX1_putIn 61 = .ok (.bipush 16, 2) := by decide +kernel
theorem dX1_putIn_63 : decode cX1_putIn 63 = .ok (.if_icmp .le 27, 3) := by decide +kernel
theorem dX1_putIn_66 : decode cX1_putIn 66 = .ok (.aload_n 0, 1) := by decide +kernel
theorem dX1_putIn_67 : decode cX1_putIn 67 = .ok (.iload_n 2, 1) := by decide +kernel
theorem dX1_putIn_68 : decode cX1_putIn 68 = .ok (.iconst 1, 1) := by decide +kernel
theorem dX1_putIn_69 : decode cX1_putIn 69 = .ok (.iadd, 1) := by decide +kernel
theorem dX1_putIn_70 : decode cX1_putIn 70 = .ok (.aload_n 0, 1) := by decide +kernel
theorem dX1_putIn_71 : decode cX1_putIn 71 = .ok (.getfield 22, 3) := by decide +kernel
theorem dX1_putIn_74 : decode cX1_putIn 74 = .ok (.iload_n 2, 1) := by decide +kernel
theorem dX1_putIn_75 : decode cX1_putIn 75 = .ok (.iaload, 1) := by decide +kernel
theorem dX1_putIn_76 : decode cX1_putIn 76 = .ok (.bipush 9, 2) := by decide +kernel
theorem dX1_putIn_78 : decode cX1_putIn 78 = .ok (.isub, 1) := by decide +kernel
theorem dX1_putIn_79 : decode cX1_putIn 79 = .ok (.invokevirtual 40, 3) := by decide +kernel
theorem dX1_putIn_82 : decode cX1_putIn 82 = .ok (.aload_n 0, 1) := by decide +kernel
theorem dX1_putIn_83 : decode cX1_putIn 83 = .ok (.getfield 22, 3) := by decide +kernel
theorem dX1_putIn_86 : decode cX1_putIn 86 = .ok (.iload_n 2, 1) := by decide +kernel
theorem dX1_putIn_87 : decode cX1_putIn 87 = .ok (.bipush 9, 2) := by decide +kernel
theorem dX1_putIn_89 : decode cX1_putIn 89 = .ok (.iastore, 1) := by decide +kernel
theorem dX1_putIn_90 : decode cX1_putIn 90 = .ok (.return_, 1) := by decide +kernel
theorem dX1_takeOut_0 : decode cX1_takeOut 0 = .ok (.aload_n 0, 1) := by decide +kernel
theorem dX1_takeOut_1 : decode cX1_takeOut 1 = .ok (.getfield 18, 3) := by decide +kernel
theorem dX1_takeOut_4 : decode cX1_takeOut 4 = .ok (.iload_n 1, 1) := by decide +kernel
theorem dX1_takeOut_5 : decode cX1_takeOut 5 = .ok (.invokevirtual 53, 3) := by decide +kernel
theorem dX1_takeOut_8 : decode cX1_takeOut 8 = .ok (.ifCond .ne 4, 3) := by decide +kernel
theorem dX1_takeOut_11 : decode cX1_takeOut 11 = .ok (.return_, 1) := by decide +kernel
theorem dX1_takeOut_12 : decode cX1_takeOut 12 = .ok (.aload_n 0, 1) := by decide +kernel
theorem dX1_takeOut_13 : decode cX1_takeOut 13 = .ok (.getfield 18, 3) := by decide +kernel
theorem dX1_takeOut_16 : decode cX1_takeOut 16 = .ok (.iload_n 1, 1) := by decide +kernel
theorem dX1_takeOut_17 : decode cX1_takeOut 17 = .ok (.invokevirtual 44, 3) := by decide +kernel
theorem dX1_takeOut_20 : decode cX1_takeOut 20 = .ok (.istore_n 2, 1) := by decide +kernel
theorem dX1_takeOut_21 : decode cX1_takeOut 21 = .ok (.aload_n 0, 1) := by decide +kernel
theorem dX1_takeOut_22 : decode cX1_takeOut 22 = .ok (.iload_n 2, 1) := by decide +kernel
theorem dX1_takeOut_23 : decode cX1_takeOut 23 = .ok (.invokevirtual 47, 3) := by decide +kernel
theorem dX1_takeOut_26 : decode cX1_takeOut 26 = .ok (.istore_n 3, 1) := by decide +kernel
theorem dX1_takeOut_27 : decode cX1_takeOut 27 = .ok (.aload_n 0, 1) := by decide +kernel
theorem dX1_takeOut_28 : decode cX1_takeOut 28 = .ok (.getfield 18, 3) := by decide +kernel
theorem dX1_takeOut_31 : decode cX1_takeOut 31 = .ok (.iload_n 2, 1) := by decide +kernel
theorem dX1_takeOut_32 : decode cX1_takeOut 32 = .ok (.invokevirtual 56, 3) := by decide +kernel
theorem dX1_takeOut_35 : decode cX1_takeOut 35 = .ok (.aload_n 0, 1) := by decide +kernel
theorem dX1_takeOut_36 : decode cX1_takeOut 36 = .ok (.iload_n 3, 1) := by decide +kernel
theorem dX1_takeOut_37 : decode cX1_takeOut 37 = .ok (.invokevirtual 29, 3) := by decide +kernel
theorem dX1_takeOut_40 : decode cX1_takeOut 40 = .ok (.ifCond .ne 4, 3) := by decide +kernel
theorem dX1_takeOut_43 : decode cX1_takeOut 43 = .ok (.return_, 1) := by decide +kernel
theorem dX1_takeOut_44 : decode cX1_takeOut 44 = .ok (.aload_n 0, 1) := by decide +kernel
theorem dX1_takeOut_45 : decode cX1_takeOut 45 = .ok (.getfield 22, 3) := by decide +kernel
theorem dX1_takeOut_48 : decode cX1_takeOut 48 = .ok (.iload_n 3, 1) := by decide +kernel
theorem dX1_takeOut_49 : decode cX1_takeOut 49 = .ok (.dup2, 1) := by decide +kernel
theorem dX1_takeOut_50 : decode cX1_takeOut 50 = .ok (.iaload, 1) := by decide +kernel
theorem dX1_takeOut_51 : decode cX1_takeOut 51 = .ok (.iconst 1, 1) := by decide +kernel
theorem dX1_takeOut_52 : decode cX1_takeOut 52 = .ok (.isub, 1) := by decide +kernel
theorem dX1_takeOut_53 : decode cX1_takeOut 53 = .ok (.iastore, 1) := by decide +kernel
theorem dX1_takeOut_54 : decode cX1_takeOut 54 = .ok (.aload_n 0, 1) := by decide +kernel
theorem dX1_takeOut_55 : decode cX1_takeOut 55 = .ok (.getfield 22, 3) := by decide +kernel
theorem dX1_takeOut_58 : decode cX1_takeOut 58 = .ok (.iload_n 3, 1) := by decide +kernel
theorem dX1_takeOut_59 : decode cX1_takeOut 59 = .ok (.iaload, 1) := by decide +kernel
theorem dX1_takeOut_60 : decode cX1_takeOut 60 = .ok (.ifCond .ne 11, 3) := by decide +kernel
theorem dX1_takeOut_63 : decode cX1_takeOut 63 = .ok (.aload_n 0, 1) := by decide +kernel
theorem dX1_takeOut_64 : decode cX1_takeOut 64 = .ok (.iload_n 3, 1) := by decide +kernel
theorem dX1_takeOut_65 : decode cX1_takeOut 65 = .ok (.invokevirtual 59, 3) := by decide +kernel
theorem dX1_takeOut_68 : decode cX1_takeOut 68 = .ok (.goto 36, 3) := by decide +kernel
theorem dX1_takeOut_71 : decode cX1_takeOut 71 = .ok (.aload_n 0, 1) := by decide +kernel
theorem dX1_takeOut_72 : decode cX1_takeOut 72 = .ok (.iload_n 3, 1) := by decide +kernel
theorem dX1_takeOut_73 : decode cX1_takeOut 73 = .ok (.invokevirtual 62, 3) := by decide +kernel
theorem dX1_takeOut_76 : decode cX1_takeOut 76 = .ok (.ifCond .eq 11, 3) := by decide +kernel
theorem dX1_takeOut_79 : decode cX1_takeOut 79 = .ok (.aload_n 0, 1) := by decide +kernel
theorem dX1_takeOut_80 : decode cX1_takeOut 80 = .ok (.iload_n 3, 1) := by decide +kernel
theorem dX1_takeOut_81 : decode cX1_takeOut 81 = .ok (.invokevirtual 65, 3) := by decide +kernel
theorem dX1_takeOut_84 : decode cX1_takeOut 84 = .ok (.goto 20, 3) := by decide +kernel
theorem dX1_takeOut_87 : decode cX1_takeOut 87 = .ok (.aload_n 0, 1) := by decide +kernel
theorem dX1_takeOut_88 : decode cX1_takeOut 88 = .ok (.iload_n 3, 1) := by decide +kernel
theorem dX1_takeOut_89 : decode cX1_takeOut 89 = .ok (.iconst 1, 1) := by decide +kernel
theorem dX1_takeOut_90 : decode cX1_takeOut 90 = .ok (.isub, 1) := by decide +kernel
theorem dX1_takeOut_91 : decode cX1_takeOut 91 = .ok (.invokevirtual 62, 3) := by decide +kernel
theorem dX1_takeOut_94 : decode cX1_takeOut 94 = .ok (.ifCond .eq 10, 3) := by decide +kernel
theorem dX1_takeOut_97 : decode cX1_takeOut 97 = .ok (.aload_n 0, 1) := by decide +kernel
theorem dX1_takeOut_98 : decode cX1_takeOut 98 = .ok (.iload_n 3, 1) := by decide +kernel
theorem dX1_takeOut_99 : decode cX1_takeOut 99 = .ok (.iconst 1, 1) := by decide +kernel
theorem dX1_takeOut_100 : decode cX1_takeOut 100 = .ok (.isub, 1) := by decide +kernel
theorem dX1_takeOut_101 : decode cX1_takeOut 101 = .ok (.invokevirtual 65, 3) := by decide +kernel
theorem dX1_takeOut_104 : decode cX1_takeOut 104 = .ok (.return_, 1) := by decide +kernel
theorem dX1_markOf_0 : decode cX1_markOf 0 = .ok (.aload_n 0, 1) := by decide +kernel
theorem dX1_markOf_1 : decode cX1_markOf 1 = .ok (.iload_n 1, 1) := by decide +kernel
theorem dX1_markOf_2 : decode cX1_markOf 2 = .ok (.invokevirtual 33, 3) := by decide +kernel
theorem dX1_markOf_5 : decode cX1_markOf 5 = .ok (.istore_n 2, 1) := by decide +kernel
theorem dX1_markOf_6 : decode cX1_markOf 6 = .ok (.iload_n 2, 1) := by decide +kernel
theorem dX1_markOf_7 : decode cX1_markOf 7 = .ok (.aload_n 0, 1) := by decide +kernel
theorem dX1_markOf_8 : decode cX1_markOf 8 = .ok (.iload_n 1, 1) := by decide +kernel
theorem dX1_markOf_9 : decode cX1_markOf 9 = .ok (.invokevirtual 68, 3) := by decide +kernel
theorem dX1_markOf_12 : decode cX1_markOf 12 = .ok (.iadd, 1) := by decide +kernel
theorem dX1_markOf_13 : decode cX1_markOf 13 = .ok (.istore_n 3, 1) := by decide +kernel
theorem dX1_markOf_14 : decode cX1_markOf 14 = .ok (.iconst 0, 1) := by decide +kernel
theorem dX1_markOf_15 : decode cX1_markOf 15 = .ok (.istore 4, 2) := by decide +kernel
theorem dX1_markOf_17 : decode cX1_markOf 17 = .ok (.iload_n 2, 1) := by decide +kernel
theorem dX1_markOf_18 : decode cX1_markOf 18 = .ok (.istore 5, 2) := by decide +kernel
theorem dX1_markOf_20 : decode cX1_markOf 20 = .ok (.iload 5, 2) := by decide +kernel
theorem dX1_markOf_22 : decode cX1_markOf 22 = .ok (.iload_n 3, 1) := by decide +kernel
theorem dX1_markOf_23 : decode cX1_markOf 23 = .ok (.if_icmp .ge 63, 3) := by decide +kernel
theorem dX1_markOf_26 : decode cX1_markOf 26 = .ok (.aload_n 0, 1) := by decide +kernel
theorem dX1_markOf_27 : decode cX1_markOf 27 = .ok (.getfield 18, 3) := by decide +kernel
theorem dX1_markOf_30 : decode cX1_markOf 30 = .ok (.iload 5, 2) := by decide +kernel
theorem dX1_markOf_32 : decode cX1_markOf 32 = .ok (.invokevirtual 37, 3) := by decide +kernel
theorem dX1_markOf_35 : decode cX1_markOf 35 = .ok (.istore 6, 2) := by decide +kernel
theorem dX1_markOf_37 : decode cX1_markOf 37 = .ok (.iconst 0, 1) := by decide +kernel
theorem dX1_markOf_38 : decode cX1_markOf 38 = .ok (.istore 7, 2) := by decide +kernel
theorem dX1_markOf_40 : decode cX1_markOf 40 = .ok (.iload 7, 2) := by decide +kernel
theorem dX1_markOf_42 : decode cX1_markOf 42 = .ok (.iconst 3, 1) := by decide +kernel
theorem dX1_markOf_43 : decode cX1_markOf 43 = .ok (.if_icmp .ge 37, 3) := by decide +kernel
theorem dX1_markOf_46 : decode cX1_markOf 46 = .ok (.iload 4, 2) := by decide +kernel
theorem dX1_markOf_48 : decode cX1_markOf 48 = .ok (.iload 6, 2) := by decide +kernel
theorem dX1_markOf_50 : decode cX1_markOf 50 = .ok (.iload 7, 2) := by decide +kernel
theorem dX1_markOf_52 : decode cX1_markOf 52 = .ok (.invokestatic 71, 3) := by decide +kernel
theorem dX1_markOf_55 : decode cX1_markOf 55 = .ok (.ixor, 1) := by decide +kernel
theorem dX1_markOf_56 : decode cX1_markOf 56 = .ok (.istore 8, 2) := by decide +kernel
theorem dX1_markOf_58 : decode cX1_markOf 58 = .ok (.iload 8, 2) := by decide +kernel
theorem dX1_markOf_60 : decode cX1_markOf 60 = .ok (.bipush 11, 2) := by decide +kernel
theorem dX1_markOf_62 : decode cX1_markOf 62 = .ok (.ishl, 1) := by decide +kernel
theorem dX1_markOf_63 : decode cX1_markOf 63 = .ok (.iload 8, 2) := by decide +kernel
theorem dX1_markOf_65 : decode cX1_markOf 65 = .ok (.bipush 21, 2) := by decide +kernel
theorem dX1_markOf_67 : decode cX1_markOf 67 = .ok (.iushr, 1) := by decide +kernel
theorem dX1_markOf_68 : decode cX1_markOf 68 = .ok (.ior, 1) := by decide +kernel
theorem dX1_markOf_69 : decode cX1_markOf 69 = .ok (.ldc 77, 2) := by decide +kernel
theorem dX1_markOf_71 : decode cX1_markOf 71 = .ok (.imul, 1) := by decide +kernel
theorem dX1_markOf_72 : decode cX1_markOf 72 = .ok (.istore 4, 2) := by decide +kernel
theorem dX1_markOf_74 : decode cX1_markOf 74 = .ok (.iinc 7 1, 3) := by decide +kernel
theorem dX1_markOf_77 : decode cX1_markOf 77 = .ok (.goto (-37), 3) := by decide +kernel
theorem dX1_markOf_80 : decode cX1_markOf 80 = .ok (.iinc 5 1, 3) := by decide +kernel
theorem dX1_markOf_83 : decode cX1_markOf 83 = .ok (.goto (-63), 3) := by decide +kernel
theorem dX1_markOf_86 : decode cX1_markOf 86 = .ok (.iload 4, 2) := by decide +kernel
theorem dX1_markOf_88 : decode cX1_markOf 88 = .ok (.ireturn, 1) := by decide +kernel
theorem dX1_startOf_0 : decode cX1_startOf 0 = .ok (.iconst 0, 1) := by decide +kernel
theorem dX1_startOf_1 : decode cX1_startOf 1 = .ok (.istore_n 2, 1) := by decide +kernel
theorem dX1_startOf_2 : decode cX1_startOf 2 = .ok (.iconst 0, 1) := by decide +kernel
theorem dX1_startOf_3 : decode cX1_startOf 3 = .ok (.istore_n 3, 1) := by decide +kernel
theorem dX1_startOf_4 : decode cX1_startOf 4 = .ok (.iload_n 3, 1) := by decide +kernel
theorem dX1_startOf_5 : decode cX1_startOf 5 = .ok (.iload_n 1, 1) := by decide +kernel
theorem dX1_startOf_6 : decode cX1_startOf 6 = .ok (.if_icmp .ge 26, 3) := by decide +kernel
theorem dX1_startOf_9 : decode cX1_startOf 9 = .ok (.iload_n 3, 1) := by decide +kernel
theorem dX1_startOf_10 : decode cX1_startOf 10 = .ok (.aload_n 0, 1) := by decide +kernel
theorem dX1_startOf_11 : decode cX1_startOf 11 = .ok (.getfield 7, 3) := by decide +kernel
theorem dX1_startOf_14 : decode cX1_startOf 14 = .ok (.if_icmp .ge 18, 3) := by decide +kernel
theorem dX1_startOf_17 : decode cX1_startOf 17 = .ok (.iload_n 2, 1) := by decide +kernel
theorem dX1_startOf_18 : decode cX1_startOf 18 = .ok (.aload_n 0, 1) := by decide +kernel
theorem dX1_startOf_19 : decode cX1_startOf 19 = .ok (.getfield 22, 3) := by decide +kernel
theorem dX1_startOf_22 : decode cX1_startOf 22 = .ok (.iload_n 3, 1) := by decide +kernel
theorem dX1_startOf_23 : decode cX1_startOf 23 = .ok (.iaload, 1) := by decide +kernel
theorem dX1_startOf_24 : decode cX1_startOf 24 = .ok (.iadd, 1) := by decide +kernel
theorem dX1_startOf_25 : decode cX1_startOf 25 = .ok (.istore_n 2, 1) := by decide +kernel
theorem dX1_startOf_26 : decode cX1_startOf 26 = .ok (.iinc 3 1, 3) := by decide +kernel
theorem dX1_startOf_29 : decode cX1_startOf 29 = .ok (.goto (-25), 3) := by decide +kernel
theorem dX1_startOf_32 : decode cX1_startOf 32 = .ok (.iload_n 2, 1) := by decide +kernel
theorem dX1_startOf_33 : decode cX1_startOf 33 = .ok (.ireturn, 1) := by decide +kernel
theorem dX1_pageHolding_0 : decode cX1_pageHolding 0 = .ok (.iconst 0, 1) := by decide +kernel
theorem dX1_pageHolding_1 : decode cX1_pageHolding 1 = .ok (.istore_n 2, 1) := by decide +kernel
theorem dX1_pageHolding_2 : decode cX1_pageHolding 2 = .ok (.iconst 0, 1) := by decide +kernel
theorem dX1_pageHolding_3 : decode cX1_pageHolding 3 = .ok (.istore_n 3, 1) := by decide +kernel
theorem dX1_pageHolding_4 : decode cX1_pageHolding 4 = .ok (.iload_n 3, 1) := by decide +kernel
theorem dX1_pageHolding_5 : decode cX1_pageHolding 5 = .ok (.aload_n 0, 1) := by decide +kernel
theorem dX1_pageHolding_6 : decode cX1_pageHolding 6 = .ok (.getfield 7, 3) := by decide +kernel
theorem dX1_pageHolding_9 : decode cX1_pageHolding 9 = .ok (.if_icmp .ge 25, 3) := by decide +kernel
theorem dX1_pageHolding_12 : decode cX1_pageHolding 12 = .ok (.iload_n 2, 1) := by decide +kernel
theorem dX1_pageHolding_13 : decode cX1_pageHolding 13 = .ok (.aload_n 0, 1) := by decide +kernel
theorem dX1_pageHolding_14 : decode cX1_pageHolding 14 = .ok (.getfield 22, 3) := by decide +kernel
theorem dX1_pageHolding_17 : decode cX1_pageHolding 17 = .ok (.iload_n 3, 1) := by decide +kernel
theorem dX1_pageHolding_18 : decode cX1_pageHolding 18 = .ok (.iaload, 1) := by decide +kernel
theorem dX1_pageHolding_19 : decode cX1_pageHolding 19 = .ok (.iadd, 1) := by decide +kernel
theorem dX1_pageHolding_20 : decode cX1_pageHolding 20 = .ok (.istore_n 2, 1) := by decide +kernel
theorem dX1_pageHolding_21 : decode cX1_pageHolding 21 = .ok (.iload_n 1, 1) := by decide +kernel
theorem dX1_pageHolding_22 : decode cX1_pageHolding 22 = .ok (.iload_n 2, 1) := by decide +kernel
theorem dX1_pageHolding_23 : decode cX1_pageHolding 23 = .ok (.if_icmp .ge 5, 3) := by decide +kernel
theorem dX1_pageHolding_26 : decode cX1_pageHolding 26 = .ok (.iload_n 3, 1) := by decide +kernel
theorem dX1_pageHolding_27 : decode cX1_pageHolding 27 = .ok (.ireturn, 1) := by decide +kernel
theorem dX1_pageHolding_28 : decode cX1_pageHolding 28 = .ok (.iinc 3 1, 3) := by decide +kernel
theorem dX1_pageHolding_31 : decode cX1_pageHolding 31 = .ok (.goto (-27), 3) := by decide +kernel
theorem dX1_pageHolding_34 : decode cX1_pageHolding 34 = .ok (.aload_n 0, 1) := by decide +kernel
theorem dX1_pageHolding_35 : decode cX1_pageHolding 35 = .ok (.getfield 7, 3) := by decide +kernel
theorem dX1_pageHolding_38 : decode cX1_pageHolding 38 = .ok (.iconst 1, 1) := by decide +kernel
theorem dX1_pageHolding_39 : decode cX1_pageHolding 39 = .ok (.isub, 1) := by decide +kernel
theorem dX1_pageHolding_40 : decode cX1_pageHolding 40 = .ok (.ireturn, 1) := by decide +kernel
theorem dX1_canJoin_0 : decode cX1_canJoin 0 = .ok (.aload_n 0, 1) := by decide +kernel
theorem dX1_canJoin_1 : decode cX1_canJoin 1 = .ok (.iload_n 1, 1) := by decide +kernel
theorem dX1_canJoin_2 : decode cX1_canJoin 2 = .ok (.invokevirtual 29, 3) := by decide +kernel
theorem dX1_canJoin_5 : decode cX1_canJoin 5 = .ok (.ifCond .eq 37, 3) := by decide +kernel
theorem dX1_canJoin_8 : decode cX1_canJoin 8 = .ok (.aload_n 0, 1) := by decide +kernel
theorem dX1_canJoin_9 : decode cX1_canJoin 9 = .ok (.iload_n 1, 1) := by decide +kernel
theorem dX1_canJoin_10 : decode cX1_canJoin 10 = .ok (.iconst 1, 1) := by decide +kernel
theorem dX1_canJoin_11 : decode cX1_canJoin 11 = .ok (.iadd, 1) := by decide +kernel
theorem dX1_canJoin_12 : decode cX1_canJoin 12 = .ok (.invokevirtual 29, 3) := by decide +kernel
theorem dX1_canJoin_15 : decode cX1_canJoin 15 = .ok (.ifCond .eq 27, 3) := by decide +kernel
theorem dX1_canJoin_18 : decode cX1_canJoin 18 = .ok (.aload_n 0, 1) := by decide +kernel
theorem dX1_canJoin_19 : decode cX1_canJoin 19 = .ok (.getfield 22, 3) := by decide +kernel
theorem dX1_canJoin_22 : decode cX1_canJoin 22 = .ok (.iload_n 1, 1) := by decide +kernel
theorem dX1_canJoin_23 : decode cX1_canJoin 23 = .ok (.iaload, 1) := by decide +kernel
theorem dX1_canJoin_24 : decode cX1_canJoin 24 = .ok (.aload_n 0, 1) := by decide +kernel
theorem dX1_canJoin_25 : decode cX1_canJoin 25 = .ok (.getfield 22, 3) := by decide +kernel
theorem dX1_canJoin_28 : decode cX1_canJoin 28 = .ok (.iload_n 1, 1) := by decide +kernel
theorem dX1_canJoin_29 : decode cX1_canJoin 29 = .ok (.iconst 1, 1) := by decide +kernel
theorem dX1_canJoin_30 : decode cX1_canJoin 30 = .ok (.iadd, 1) := by decide +kernel
theorem dX1_canJoin_31 : decode cX1_canJoin 31 = .ok (.iaload, 1) := by decide +kernel
theorem dX1_canJoin_32 : decode cX1_canJoin 32 = .ok (.iadd, 1) := by decide +kernel
theorem dX1_canJoin_33 : decode cX1_canJoin 33 = .ok (.bipush 10, 2) := by decide +kernel
theorem dX1_canJoin_35 : decode cX1_canJoin 35 = .ok (.if_icmp .gt 7, 3) := by decide +kernel
theorem dX1_canJoin_38 : decode cX1_canJoin 38 = .ok (.iconst 1, 1) := by decide +kernel
theorem dX1_canJoin_39 : decode cX1_canJoin 39 = .ok (.goto 4, 3) := by decide +kernel
theorem dX1_canJoin_42 : decode cX1_canJoin 42 = .ok (.iconst 0, 1) := by decide +kernel
theorem dX1_canJoin_43 : decode cX1_canJoin 43 = .ok (.ireturn, 1) := by decide +kernel
theorem dX1_joinWithNext_0 : decode cX1_joinWithNext 0 = .ok (.aload_n 0, 1) := by decide +kernel
theorem dX1_joinWithNext_1 : decode cX1_joinWithNext 1 = .ok (.getfield 22, 3) := by decide +kernel
theorem dX1_joinWithNext_4 : decode cX1_joinWithNext 4 = .ok (.iload_n 1, 1) := by decide +kernel
theorem dX1_joinWithNext_5 : decode cX1_joinWithNext 5 = .ok (.dup2, 1) := by decide +kernel
theorem dX1_joinWithNext_6 : decode cX1_joinWithNext 6 = .ok (.iaload, 1) := by decide +kernel
theorem dX1_joinWithNext_7 : decode cX1_joinWithNext 7 = .ok (.aload_n 0, 1) := by decide +kernel
theorem dX1_joinWithNext_8 : decode cX1_joinWithNext 8 = .ok (.getfield 22, 3) := by decide +kernel
theorem dX1_joinWithNext_11 : decode cX1_joinWithNext 11 = .ok (.iload_n 1, 1) := by decide +kernel
theorem dX1_joinWithNext_12 : decode cX1_joinWithNext 12 = .ok (.iconst 1, 1) := by decide +kernel
theorem dX1_joinWithNext_13 : decode cX1_joinWithNext 13 = .ok (.iadd, 1) := by decide +kernel
theorem dX1_joinWithNext_14 : decode cX1_joinWithNext 14 = .ok (.iaload, 1) := by decide +kernel
theorem dX1_joinWithNext_15 : decode cX1_joinWithNext 15 = .ok (.iadd, 1) := by decide +kernel
theorem dX1_joinWithNext_16 : decode cX1_joinWithNext 16 = .ok (.iastore, 1) := by decide +kernel
theorem dX1_joinWithNext_17 : decode cX1_joinWithNext 17 = .ok (.aload_n 0, 1) := by decide +kernel
theorem dX1_joinWithNext_18 : decode cX1_joinWithNext 18 = .ok (.iload_n 1, 1) := by decide +kernel
theorem dX1_joinWithNext_19 : decode cX1_joinWithNext 19 = .ok (.iconst 1, 1) := by decide +kernel
theorem dX1_joinWithNext_20 : decode cX1_joinWithNext 20 = .ok (.iadd, 1) := by decide +kernel
theorem dX1_joinWithNext_21 : decode cX1_joinWithNext 21 = .ok (.invokevirtual 59, 3) := by decide +kernel
theorem dX1_joinWithNext_24 : decode cX1_joinWithNext 24 = .ok (.return_, 1) := by decide +kernel
theorem dX1_openPage_0 : decode cX1_openPage 0 = .ok (.iload_n 1, 1) := by decide +kernel
theorem dX1_openPage_1 : decode cX1_openPage 1 = .ok (.ifCond .lt 23, 3) := by decide +kernel
theorem dX1_openPage_4 : decode cX1_openPage 4 = .ok (.iload_n 1, 1) := by decide +kernel
theorem dX1_openPage_5 : decode cX1_openPage 5 = .ok (.aload_n 0, 1) := by decide +kernel
theorem dX1_openPage_6 : decode cX1_openPage 6 = .ok (.getfield 7, 3) := by decide +kernel
theorem dX1_openPage_9 : decode cX1_openPage 9 = .ok (.if_icmp .gt 15, 3) := by decide +kernel
theorem dX1_openPage_12 : decode cX1_openPage 12 = .ok (.aload_n 0, 1) := by decide +kernel
theorem dX1_openPage_13 : decode cX1_openPage 13 = .ok (.getfield 7, 3) := by decide +kernel
theorem dX1_openPage_16 : decode cX1_openPage 16 = .ok (.aload_n 0, 1) := by decide +kernel
theorem dX1_openPage_17 : decode cX1_openPage 17 = .ok (.getfield 22, 3) := by decide +kernel
theorem dX1_openPage_20 : decode cX1_openPage 20 = .ok (.arraylength, 1) := by decide +kernel
theorem dX1_openPage_21 : decode cX1_openPage 21 = .ok (.if_icmp .lt 4, 3) := by decide +kernel
theorem dX1_openPage_24 : decode cX1_openPage 24 = .ok (.return_, 1) := by decide +kernel
theorem dX1_openPage_25 : decode cX1_openPage 25 = .ok (.aload_n 0, 1) := by decide +kernel
theorem dX1_openPage_26 : decode cX1_openPage 26 = .ok (.getfield 22, 3) := by decide +kernel
theorem dX1_openPage_29 : decode cX1_openPage 29 = .ok (.iload_n 1, 1) := by decide +kernel
theorem dX1_openPage_30 : decode cX1_openPage 30 = .ok (.aload_n 0, 1) := by decide +kernel
theorem dX1_openPage_31 : decode cX1_openPage 31 = .ok (.getfield 22, 3) := by decide +kernel
theorem dX1_openPage_34 : decode cX1_openPage 34 = .ok (.iload_n 1, 1) := by decide +kernel
theorem dX1_openPage_35 : decode cX1_openPage 35 = .ok (.iconst 1, 1) := by decide +kernel
theorem dX1_openPage_36 : decode cX1_openPage 36 = .ok (.iadd, 1) := by decide +kernel
theorem dX1_openPage_37 : decode cX1_openPage 37 = .ok (.aload_n 0, 1) := by decide +kernel
theorem dX1_openPage_38 : decode cX1_openPage 38 = .ok (.getfield 7, 3) := by decide +kernel
theorem dX1_openPage_41 : decode cX1_openPage 41 = .ok (.iload_n 1, 1) := by decide +kernel
theorem dX1_openPage_42 : decode cX1_openPage 42 = .ok (.isub, 1) := by decide +kernel
theorem dX1_openPage_43 : decode cX1_openPage 43 = .ok (.invokestatic 78, 3) := by decide +kernel
theorem dX1_openPage_46 : decode cX1_openPage 46 = .ok (.aload_n 0, 1) := by decide +kernel
theorem dX1_openPage_47 : decode cX1_openPage 47 = .ok (.getfield 22, 3) := by decide +kernel
theorem dX1_openPage_50 : decode cX1_openPage 50 = .ok (.iload_n 1, 1) := by decide +kernel
theorem dX1_openPage_51 : decode cX1_openPage 51 = .ok (.iload_n 2, 1) := by decide +kernel
theorem dX1_openPage_52 : decode cX1_openPage 52 = .ok (.iastore, 1) := by decide +kernel
theorem dX1_openPage_53 : decode cX1_openPage 53 = .ok (.aload_n 0, 1) := by decide +kernel
theorem dX1_openPage_54 : decode cX1_openPage 54 = .ok (.dup, 1) := by decide +kernel
theorem dX1_openPage_55 : decode cX1_openPage 55 = .ok (.getfield 7, 3) := by decide +kernel
theorem dX1_openPage_58 : decode cX1_openPage 58 = .ok (.iconst 1, 1) := by decide +kernel
theorem dX1_openPage_59 : decode cX1_openPage 59 = .ok (.iadd, 1) := by decide +kernel
theorem dX1_openPage_60 : decode cX1_openPage 60 = .ok (.putfield 7, 3) := by decide +kernel
theorem dX1_openPage_63 : decode cX1_openPage 63 = .ok (.return_, 1) := by decide +kernel
theorem dX1_dropPage_0 : decode cX1_dropPage 0 = .ok (.aload_n 0, 1) := by decide +kernel
theorem dX1_dropPage_1 : decode cX1_dropPage 1 = .ok (.iload_n 1, 1) := by decide +kernel
theorem dX1_dropPage_2 : decode cX1_dropPage 2 = .ok (.invokevirtual 29, 3) := by decide +kernel
theorem dX1_dropPage_5 : decode cX1_dropPage 5 = .ok (.ifCond .ne 4, 3) := by decide +kernel
theorem dX1_dropPage_8 : decode cX1_dropPage 8 = .ok (.return_, 1) := by decide +kernel
theorem dX1_dropPage_9 : decode cX1_dropPage 9 = .ok (.aload_n 0, 1) := by decide +kernel
theorem dX1_dropPage_10 : decode cX1_dropPage 10 = .ok (.getfield 22, 3) := by decide +kernel
theorem dX1_dropPage_13 : decode cX1_dropPage 13 = .ok (.iload_n 1, 1) := by decide +kernel
theorem dX1_dropPage_14 : decode cX1_dropPage 14 = .ok (.iconst 1, 1) := by decide +kernel
theorem dX1_dropPage_15 : decode cX1_dropPage 15 = .ok (.iadd, 1) := by decide +kernel
theorem dX1_dropPage_16 : decode cX1_dropPage 16 = .ok (.aload_n 0, 1) := by decide +kernel
theorem dX1_dropPage_17 : decode cX1_dropPage 17 = .ok (.getfield 22, 3) := by decide +kernel
theorem dX1_dropPage_20 : decode cX1_dropPage 20 = .ok (.iload_n 1, 1) := by decide +kernel
theorem dX1_dropPage_21 : decode cX1_dropPage 21 = .ok (.aload_n 0, 1) := by decide +kernel
theorem dX1_dropPage_22 : decode cX1_dropPage 22 = .ok (.getfield 7, 3) := by decide +kernel
theorem dX1_dropPage_25 : decode cX1_dropPage 25 = .ok (.iload_n 1, 1) := by decide +kernel
theorem dX1_dropPage_26 : decode cX1_dropPage 26 = .ok (.isub, 1) := by decide +kernel
theorem dX1_dropPage_27 : decode cX1_dropPage 27 = .ok (.iconst 1, 1) := by decide +kernel
theorem dX1_dropPage_28 : decode cX1_dropPage 28 = .ok (.isub, 1) := by decide +kernel
theorem dX1_dropPage_29 : decode cX1_dropPage 29 = .ok (.invokestatic 78, 3) := by decide +kernel
theorem dX1_dropPage_32 : decode cX1_dropPage 32 = .ok (.aload_n 0, 1) := by decide +kernel
theorem dX1_dropPage_33 : decode cX1_dropPage 33 = .ok (.dup, 1) := by decide +kernel
theorem dX1_dropPage_34 : decode cX1_dropPage 34 = .ok (.getfield 7, 3) := by decide +kernel
theorem dX1_dropPage_37 : decode cX1_dropPage 37 = .ok (.iconst 1, 1) := by decide +kernel
theorem dX1_dropPage_38 : decode cX1_dropPage 38 = .ok (.isub, 1) := by decide +kernel
theorem dX1_dropPage_39 : decode cX1_dropPage 39 = .ok (.putfield 7, 3) := by decide +kernel
theorem dX1_dropPage_42 : decode cX1_dropPage 42 = .ok (.return_, 1) := by decide +kernel
theorem dX2_init_0 : decode cX2_init 0 = .ok (.aload_n 0, 1) := by decide +kernel
theorem dX2_init_1 : decode cX2_init 1 = .ok (.invokespecial 3, 3) := by decide +kernel
theorem dX2_init_4 : decode cX2_init 4 = .ok (.aload_n 0, 1) := by decide +kernel
theorem dX2_init_5 : decode cX2_init 5 = .ok (.iconst 0, 1) := by decide +kernel
theorem dX2_init_6 : decode cX2_init 6 = .ok (.putfield 9, 3) := by decide +kernel
theorem dX2_init_9 : decode cX2_init 9 = .ok (.aload_n 0, 1) := by decide +kernel
theorem dX2_init_10 : decode cX2_init 10 = .ok (.iconst (-1), 1) := by decide +kernel
theorem dX2_init_11 : decode cX2_init 11 = .ok (.putfield 15, 3) := by decide +kernel
theorem dX2_init_14 : decode cX2_init 14 = .ok (.aload_n 0, 1) := by decide +kernel
theorem dX2_init_15 : decode cX2_init 15 = .ok (.iconst (-1), 1) := by decide +kernel
theorem dX2_init_16 : decode cX2_init 16 = .ok (.putfield 18, 3) := by decide +kernel
theorem dX2_init_19 : decode cX2_init 19 = .ok (.return_, 1) := by decide +kernel
theorem dX2_tell_0 : decode cX2_tell 0 = .ok (.aload_n 0, 1) := by decide +kernel
theorem dX2_tell_1 : decode cX2_tell 1 = .ok (.iload_n 1, 1) := by decide +kernel
theorem dX2_tell_2 : decode cX2_tell 2 = .ok (.putfield 9, 3) := by decide +kernel
theorem dX2_tell_5 : decode cX2_tell 5 = .ok (.aload_n 0, 1) := by decide +kernel
theorem dX2_tell_6 : decode cX2_tell 6 = .ok (.iload_n 2, 1) := by decide +kernel
theorem dX2_tell_7 : decode cX2_tell 7 = .ok (.putfield 15, 3) := by decide +kernel
theorem dX2_tell_10 : decode cX2_tell 10 = .ok (.aload_n 0, 1) := by decide +kernel
theorem dX2_tell_11 : decode cX2_tell 11 = .ok (.iload_n 3, 1) := by decide +kernel
theorem dX2_tell_12 : decode cX2_tell 12 = .ok (.putfield 18, 3) := by decide +kernel
theorem dX2_tell_15 : decode cX2_tell 15 = .ok (.return_, 1) := by decide +kernel
theorem dX2_covers_0 : decode cX2_covers 0 = .ok (.aload_n 0, 1) := by decide +kernel
theorem dX2_covers_1 : decode cX2_covers 1 = .ok (.getfield 15, 3) := by decide +kernel
theorem dX2_covers_4 : decode cX2_covers 4 = .ok (.iconst (-1), 1) := by decide +kernel
theorem dX2_covers_5 : decode cX2_covers 5 = .ok (.if_icmp .eq 20, 3) := by decide +kernel
theorem dX2_covers_8 : decode cX2_covers 8 = .ok (.aload_n 1, 1) := by decide +kernel
theorem dX2_covers_9 : decode cX2_covers 9 = .ok (.aload_n 0, 1) := by decide +kernel
theorem dX2_covers_10 : decode cX2_covers 10 = .ok (.getfield 9, 3) := by decide +kernel
theorem dX2_covers_13 : decode cX2_covers 13 = .ok (.iconst 0, 1) := by decide +kernel
theorem dX2_covers_14 : decode cX2_covers 14 = .ok (.iload_n 2, 1) := by decide +kernel
theorem dX2_covers_15 : decode cX2_covers 15 = .ok (.invokevirtual 21, 3) := by decide +kernel
theorem dX2_covers_18 : decode cX2_covers 18 = .ok (.aload_n 0, 1) := by decide +kernel
theorem dX2_covers_19 : decode cX2_covers 19 = .ok (.getfield 15, 3) := by decide +kernel
theorem dX2_covers_22 : decode cX2_covers 22 = .ok (.if_icmp .ne 32, 3) := by decide +kernel
theorem dX2_covers_25 : decode cX2_covers 25 = .ok (.aload_n 0, 1) := by decide +kernel
theorem dX2_covers_26 : decode cX2_covers 26 = .ok (.getfield 18, 3) := by decide +kernel
theorem dX2_covers_29 : decode cX2_covers 29 = .ok (.iconst (-1), 1) := by decide +kernel
theorem dX2_covers_30 : decode cX2_covers 30 = .ok (.if_icmp .eq 20, 3) := by decide +kernel
theorem dX2_covers_33 : decode cX2_covers 33 = .ok (.aload_n 1, 1) := by decide +kernel
theorem dX2_covers_34 : decode cX2_covers 34 = .ok (.aload_n 0, 1) := by decide +kernel
theorem dX2_covers_35 : decode cX2_covers 35 = .ok (.getfield 9, 3) := by decide +kernel
theorem dX2_covers_38 : decode cX2_covers 38 = .ok (.iconst 1, 1) := by decide +kernel
theorem dX2_covers_39 : decode cX2_covers 39 = .ok (.iload_n 2, 1) := by decide +kernel
theorem dX2_covers_40 : decode cX2_covers 40 = .ok (.invokevirtual 21, 3) := by decide +kernel
theorem dX2_covers_43 : decode cX2_covers 43 = .ok (.aload_n 0, 1) := by decide +kernel
theorem dX2_covers_44 : decode cX2_covers 44 = .ok (.getfield 18, 3) := by decide +kernel
theorem dX2_covers_47 : decode cX2_covers 47 = .ok (.if_icmp .ne 7, 3) := by decide +kernel
theorem dX2_covers_50 : decode cX2_covers 50 = .ok (.iconst 1, 1) := by decide +kernel
theorem dX2_covers_51 : decode cX2_covers 51 = .ok (.goto 4, 3) := by decide +kernel
theorem dX2_covers_54 : decode cX2_covers 54 = .ok (.iconst 0, 1) := by decide +kernel
theorem dX2_covers_55 : decode cX2_covers 55 = .ok (.ireturn, 1) := by decide +kernel
theorem dX2_freePlace_0 : decode cX2_freePlace 0 = .ok (.aload_n 0, 1) := by decide +kernel
theorem dX2_freePlace_1 : decode cX2_freePlace 1 = .ok (.getfield 15, 3) := by decide +kernel
theorem dX2_freePlace_4 : decode cX2_freePlace 4 = .ok (.iconst (-1), 1) := by decide +kernel
theorem dX2_freePlace_5 : decode cX2_freePlace 5 = .ok (.if_icmp .ne 5, 3) := by decide +kernel
theorem dX2_freePlace_8 : decode cX2_freePlace 8 = .ok (.iconst 0, 1) := by decide +kernel
theorem dX2_freePlace_9 : decode cX2_freePlace 9 = .ok (.ireturn, 1) := by decide +kernel
theorem dX2_freePlace_10 : decode cX2_freePlace 10 = .ok (.aload_n 0, 1) := by decide +kernel
theorem dX2_freePlace_11 : decode cX2_freePlace 11 = .ok (.getfield 18, 3) := by decide +kernel
theorem dX2_freePlace_14 : decode cX2_freePlace 14 = .ok (.iconst (-1), 1) := by decide +kernel
theorem dX2_freePlace_15 : decode cX2_freePlace 15 = .ok (.if_icmp .ne 7, 3) := by decide +kernel
theorem dX2_freePlace_18 : decode cX2_freePlace 18 = .ok (.iconst 1, 1) := by decide +kernel
theorem dX2_freePlace_19 : decode cX2_freePlace 19 = .ok (.goto 4, 3) := by decide +kernel
theorem dX2_freePlace_22 : decode cX2_freePlace 22 = .ok (.iconst 2, 1) := by decide +kernel
theorem dX2_freePlace_23 : decode cX2_freePlace 23 = .ok (.ireturn, 1) := by decide +kernel
theorem dX2_lowestKey_0 : decode cX2_lowestKey 0 = .ok (.aload_n 0, 1) := by decide +kernel
theorem dX2_lowestKey_1 : decode cX2_lowestKey 1 = .ok (.getfield 15, 3) := by decide +kernel
theorem dX2_lowestKey_4 : decode cX2_lowestKey 4 = .ok (.iconst (-1), 1) := by decide +kernel
theorem dX2_lowestKey_5 : decode cX2_lowestKey 5 = .ok (.if_icmp .ne 8, 3) := by decide +kernel
theorem dX2_lowestKey_8 : decode cX2_lowestKey 8 = .ok (.iload_n 1, 1) := by decide +kernel
theorem dX2_lowestKey_9 : decode cX2_lowestKey 9 = .ok (.ldc 27, 2) := by decide +kernel
theorem dX2_lowestKey_11 : decode cX2_lowestKey 11 = .ok (.imul, 1) := by decide +kernel
theorem dX2_lowestKey_12 : decode cX2_lowestKey 12 = .ok (.ireturn, 1) := by decide +kernel
theorem dX2_lowestKey_13 : decode cX2_lowestKey 13 = .ok (.aload_n 0, 1) := by decide +kernel
theorem dX2_lowestKey_14 : decode cX2_lowestKey 14 = .ok (.getfield 18, 3) := by decide +kernel
theorem dX2_lowestKey_17 : decode cX2_lowestKey 17 = .ok (.iconst (-1), 1) := by decide +kernel
theorem dX2_lowestKey_18 : decode cX2_lowestKey 18 = .ok (.if_icmp .ne 17, 3) := by decide +kernel
theorem dX2_lowestKey_21 : decode cX2_lowestKey 21 = .ok (.aload_n 0, 1) := by decide +kernel
theorem dX2_lowestKey_22 : decode cX2_lowestKey 22 = .ok (.getfield 15, 3) := by decide +kernel
theorem dX2_lowestKey_25 : decode cX2_lowestKey 25 = .ok (.ldc 27, 2) := by decide +kernel
theorem dX2_lowestKey_27 : decode cX2_lowestKey 27 = .ok (.imul, 1) := by decide +kernel
theorem dX2_lowestKey_28 : decode cX2_lowestKey 28 = .ok (.iload_n 1, 1) := by decide +kernel
theorem dX2_lowestKey_29 : decode cX2_lowestKey 29 = .ok (.sipush 1000, 3) := by decide +kernel
theorem dX2_lowestKey_32 : decode cX2_lowestKey 32 = .ok (.imul, 1) := by decide +kernel
theorem dX2_lowestKey_33 : decode cX2_lowestKey 33 = .ok (.iadd, 1) := by decide +kernel
theorem dX2_lowestKey_34 : decode cX2_lowestKey 34 = .ok (.ireturn, 1) := by decide +kernel
theorem dX2_lowestKey_35 : decode cX2_lowestKey 35 = .ok (.aload_n 0, 1) := by decide +kernel
theorem dX2_lowestKey_36 : decode cX2_lowestKey 36 = .ok (.getfield 15, 3) := by decide +kernel
theorem dX2_lowestKey_39 : decode cX2_lowestKey 39 = .ok (.ldc 27, 2) := by decide +kernel
theorem dX2_lowestKey_41 : decode cX2_lowestKey 41 = .ok (.imul, 1) := by decide +kernel
theorem dX2_lowestKey_42 : decode cX2_lowestKey 42 = .ok (.aload_n 0, 1) := by decide +kernel
theorem dX2_lowestKey_43 : decode cX2_lowestKey 43 = .ok (.getfield 18, 3) := by decide +kernel
theorem dX2_lowestKey_46 : decode cX2_lowestKey 46 = .ok (.sipush 1000, 3) := by decide +kernel
theorem dX2_lowestKey_49 : decode cX2_lowestKey 49 = .ok (.imul, 1) := by decide +kernel
theorem dX2_lowestKey_50 : decode cX2_lowestKey 50 = .ok (.iadd, 1) := by decide +kernel
theorem dX2_lowestKey_51 : decode cX2_lowestKey 51 = .ok (.iload_n 1, 1) := by decide +kernel
theorem dX2_lowestKey_52 : decode cX2_lowestKey 52 = .ok (.iadd, 1) := by decide +kernel
theorem dX2_lowestKey_53 : decode cX2_lowestKey 53 = .ok (.ireturn, 1) := by decide +kernel
theorem dX3_init_0 : decode cX3_init 0 = .ok (.aload_n 0, 1) := by decide +kernel
theorem dX3_init_1 : decode cX3_init 1 = .ok (.invokespecial 3, 3) := by decide +kernel
theorem dX3_init_4 : decode cX3_init 4 = .ok (.aload_n 0, 1) := by decide +kernel
theorem dX3_init_5 : decode cX3_init 5 = .ok (.iconst 0, 1) := by decide +kernel
theorem dX3_init_6 : decode cX3_init 6 = .ok (.putfield 9, 3) := by decide +kernel
theorem dX3_init_9 : decode cX3_init 9 = .ok (.aload_n 0, 1) := by decide +kernel
theorem dX3_init_10 : decode cX3_init 10 = .ok (.iload_n 1, 1) := by decide +kernel
theorem dX3_init_11 : decode cX3_init 11 = .ok (.newarray .int, 2) := by decide +kernel
theorem dX3_init_13 : decode cX3_init 13 = .ok (.putfield 15, 3) := by decide +kernel
theorem dX3_init_16 : decode cX3_init 16 = .ok (.return_, 1) := by decide +kernel
theorem dX3_empty_0 : decode cX3_empty 0 = .ok (.aload_n 0, 1) := by decide +kernel
theorem dX3_empty_1 : decode cX3_empty 1 = .ok (.iconst 0, 1) := by decide +kernel
theorem dX3_empty_2 : decode cX3_empty 2 = .ok (.putfield 9, 3) := by decide +kernel
theorem dX3_empty_5 : decode cX3_empty 5 = .ok (.return_, 1) := by decide +kernel
theorem dX3_key_0 : decode cX3_key 0 = .ok (.iload_n 1, 1) := by decide +kernel
theorem dX3_key_1 : decode cX3_key 1 = .ok (.ifCond .lt 20, 3) := by decide +kernel
theorem dX3_key_4 : decode cX3_key 4 = .ok (.iload_n 1, 1) := by decide +kernel
theorem dX3_key_5 : decode cX3_key 5 = .ok (.aload_n 0, 1) := by decide +kernel
theorem dX3_key_6 : decode cX3_key 6 = .ok (.getfield 9, 3) := by decide +kernel
theorem dX3_key_9 : decode cX3_key 9 = .ok (.if_icmp .ge 12, 3) := by decide +kernel
theorem dX3_key_12 : decode cX3_key 12 = .ok (.aload_n 0, 1) := by decide +kernel
theorem dX3_key_13 : decode cX3_key 13 = .ok (.getfield 15, 3) := by decide +kernel
theorem dX3_key_16 : decode cX3_key 16 = .ok (.iload_n 1, 1) := by decide +kernel
theorem dX3_key_17 : decode cX3_key 17 = .ok (.iaload, 1) := by decide +kernel
theorem dX3_key_18 : decode cX3_key 18 = .ok (.goto 4, 3) := by decide +kernel
theorem dX3_key_21 : decode cX3_key 21 = .ok (.iconst (-1), 1) := by decide +kernel
theorem dX3_key_22 : decode cX3_key 22 = .ok (.ireturn, 1) := by decide +kernel
theorem dX3_has_0 : decode cX3_has 0 = .ok (.aload_n 0, 1) := by decide +kernel
theorem dX3_has_1 : decode cX3_has 1 = .ok (.iload_n 1, 1) := by decide +kernel
theorem dX3_has_2 : decode cX3_has 2 = .ok (.invokevirtual 19, 3) := by decide +kernel
theorem dX3_has_5 : decode cX3_has 5 = .ok (.istore_n 2, 1) := by decide +kernel
theorem dX3_has_6 : decode cX3_has 6 = .ok (.iload_n 2, 1) := by decide +kernel
theorem dX3_has_7 : decode cX3_has 7 = .ok (.aload_n 0, 1) := by decide +kernel
theorem dX3_has_8 : decode cX3_has 8 = .ok (.getfield 9, 3) := by decide +kernel
theorem dX3_has_11 : decode cX3_has 11 = .ok (.if_icmp .ge 17, 3) := by decide +kernel
theorem dX3_has_14 : decode cX3_has 14 = .ok (.aload_n 0, 1) := by decide +kernel
theorem dX3_has_15 : decode cX3_has 15 = .ok (.getfield 15, 3) := by decide +kernel
theorem dX3_has_18 : decode cX3_has 18 = .ok (.iload_n 2, 1) := by decide +kernel
theorem dX3_has_19 : decode cX3_has 19 = .ok (.iaload, 1) := by decide +kernel
theorem dX3_has_20 : decode cX3_has 20 = .ok (.iload_n 1, 1) := by decide +kernel
theorem dX3_has_21 : decode cX3_has 21 = .ok (.if_icmp .ne 7, 3) := by decide +kernel
theorem dX3_has_24 : decode cX3_has 24 = .ok (.iconst 1, 1) := by decide +kernel
theorem dX3_has_25 : decode cX3_has 25 = .ok (.goto 4, 3) := by decide +kernel
theorem dX3_has_28 : decode cX3_has 28 = .ok (.iconst 0, 1) := by decide +kernel
theorem dX3_has_29 : decode cX3_has 29 = .ok (.ireturn, 1) := by decide +kernel
theorem dX3_placeFor_0 : decode cX3_placeFor 0 = .ok (.iconst 0, 1) := by decide +kernel
theorem dX3_placeFor_1 : decode cX3_placeFor 1 = .ok (.istore_n 2, 1) := by decide +kernel
theorem dX3_placeFor_2 : decode cX3_placeFor 2 = .ok (.aload_n 0, 1) := by decide +kernel
theorem dX3_placeFor_3 : decode cX3_placeFor 3 = .ok (.getfield 9, 3) := by decide +kernel
theorem dX3_placeFor_6 : decode cX3_placeFor 6 = .ok (.istore_n 3, 1) := by decide +kernel
theorem dX3_placeFor_7 : decode cX3_placeFor 7 = .ok (.iload_n 2, 1) := by decide +kernel
theorem dX3_placeFor_8 : decode cX3_placeFor 8 = .ok (.iload_n 3, 1) := by decide +kernel
theorem dX3_placeFor_9 : decode cX3_placeFor 9 = .ok (.if_icmp .ge 35, 3) := by decide +kernel
theorem dX3_placeFor_12 : decode cX3_placeFor 12 = .ok (.iload_n 2, 1) := by decide +kernel
theorem dX3_placeFor_13 : decode cX3_placeFor 13 = .ok (.iload_n 3, 1) := by decide +kernel
theorem dX3_placeFor_14 : decode cX3_placeFor 14 = .ok (.iadd, 1) := by decide +kernel
theorem dX3_placeFor_15 : decode cX3_placeFor 15 = .ok (.iconst 1, 1) := by decide +kernel
theorem dX3_placeFor_16 : decode cX3_placeFor 16 = .ok (.iushr, 1) := by decide +kernel
theorem dX3_placeFor_17 : decode cX3_placeFor 17 = .ok (.istore 4, 2) := by decide +kernel
theorem dX3_placeFor_19 : decode cX3_placeFor 19 = .ok (.aload_n 0, 1) := by decide +kernel
theorem dX3_placeFor_20 : decode cX3_placeFor 20 = .ok (.getfield 15, 3) := by decide +kernel
theorem dX3_placeFor_23 : decode cX3_placeFor 23 = .ok (.iload 4, 2) := by decide +kernel
theorem dX3_placeFor_25 : decode cX3_placeFor 25 = .ok (.iaload, 1) := by decide +kernel
theorem dX3_placeFor_26 : decode cX3_placeFor 26 = .ok (.iload_n 1, 1) := by decide +kernel
theorem dX3_placeFor_27 : decode cX3_placeFor 27 = .ok (.if_icmp .ge 11, 3) := by decide +kernel
theorem dX3_placeFor_30 : decode cX3_placeFor 30 = .ok (.iload 4, 2) := by decide +kernel
theorem dX3_placeFor_32 : decode cX3_placeFor 32 = .ok (.iconst 1, 1) := by decide +kernel
theorem dX3_placeFor_33 : decode cX3_placeFor 33 = .ok (.iadd, 1) := by decide +kernel
theorem dX3_placeFor_34 : decode cX3_placeFor 34 = .ok (.istore_n 2, 1) := by decide +kernel
theorem dX3_placeFor_35 : decode cX3_placeFor 35 = .ok (.goto 6, 3) := by decide +kernel
theorem dX3_placeFor_38 : decode cX3_placeFor 38 = .ok (.iload 4, 2) := by decide +kernel
theorem dX3_placeFor_40 : decode cX3_placeFor 40 = .ok (.istore_n 3, 1) := by decide +kernel
theorem dX3_placeFor_41 : decode cX3_placeFor 41 = .ok (.goto (-34), 3) := by decide +kernel
theorem dX3_placeFor_44 : decode cX3_placeFor 44 = .ok (.iload_n 2, 1) := by decide +kernel
theorem dX3_placeFor_45 : decode cX3_placeFor 45 = .ok (.ireturn, 1) := by decide +kernel
theorem dX3_putIn_0 : decode cX3_putIn 0 = .ok (.aload_n 0, 1) := by decide +kernel
theorem dX3_putIn_1 : decode cX3_putIn 1 = .ok (.getfield 9, 3) := by decide +kernel
theorem dX3_putIn_4 : decode cX3_putIn 4 = .ok (.aload_n 0, 1) := by decide +kernel
theorem dX3_putIn_5 : decode cX3_putIn 5 = .ok (.getfield 15, 3) := by decide +kernel
theorem dX3_putIn_8 : decode cX3_putIn 8 = .ok (.arraylength, 1) := by decide +kernel
theorem dX3_putIn_9 : decode cX3_putIn 9 = .ok (.if_icmp .lt 4, 3) := by decide +kernel
theorem dX3_putIn_12 : decode cX3_putIn 12 = .ok (.return_, 1) := by decide +kernel
theorem dX3_putIn_13 : decode cX3_putIn 13 = .ok (.aload_n 0, 1) := by decide +kernel
theorem dX3_putIn_14 : decode cX3_putIn 14 = .ok (.iload_n 1, 1) := by decide +kernel
theorem dX3_putIn_15 : decode cX3_putIn 15 = .ok (.invokevirtual 19, 3) := by decide +kernel
theorem dX3_putIn_18 : decode cX3_putIn 18 = .ok (.istore_n 2, 1) := by decide +kernel
theorem dX3_putIn_19 : decode cX3_putIn 19 = .ok (.aload_n 0, 1) := by decide +kernel
theorem dX3_putIn_20 : decode cX3_putIn 20 = .ok (.getfield 15, 3) := by decide +kernel
theorem dX3_putIn_23 : decode cX3_putIn 23 = .ok (.iload_n 2, 1) := by decide +kernel
theorem dX3_putIn_24 : decode cX3_putIn 24 = .ok (.aload_n 0, 1) := by decide +kernel
theorem dX3_putIn_25 : decode cX3_putIn 25 = .ok (.getfield 15, 3) := by decide +kernel
theorem dX3_putIn_28 : decode cX3_putIn 28 = .ok (.iload_n 2, 1) := by decide +kernel
theorem dX3_putIn_29 : decode cX3_putIn 29 = .ok (.iconst 1, 1) := by decide +kernel
theorem dX3_putIn_30 : decode cX3_putIn 30 = .ok (.iadd, 1) := by decide +kernel
theorem dX3_putIn_31 : decode cX3_putIn 31 = .ok (.aload_n 0, 1) := by decide +kernel
theorem dX3_putIn_32 : decode cX3_putIn 32 = .ok (.getfield 9, 3) := by decide +kernel
theorem dX3_putIn_35 : decode cX3_putIn 35 = .ok (.iload_n 2, 1) := by decide +kernel
theorem dX3_putIn_36 : decode cX3_putIn 36 = .ok (.isub, 1) := by decide +kernel
theorem dX3_putIn_37 : decode cX3_putIn 37 = .ok (.invokestatic 23, 3) := by decide +kernel
theorem dX3_putIn_40 : decode cX3_putIn 40 = .ok (.aload_n 0, 1) := by decide +kernel
theorem dX3_putIn_41 : decode cX3_putIn 41 = .ok (.getfield 15, 3) := by decide +kernel
theorem dX3_putIn_44 : decode cX3_putIn 44 = .ok (.iload_n 2, 1) := by decide +kernel
theorem dX3_putIn_45 : decode cX3_putIn 45 = .ok (.iload_n 1, 1) := by decide +kernel
theorem dX3_putIn_46 : decode cX3_putIn 46 = .ok (.iastore, 1) := by decide +kernel
theorem dX3_putIn_47 : decode cX3_putIn 47 = .ok (.aload_n 0, 1) := by decide +kernel
theorem dX3_putIn_48 : decode cX3_putIn 48 = .ok (.dup, 1) := by decide +kernel
theorem dX3_putIn_49 : decode cX3_putIn 49 = .ok (.getfield 9, 3) := by decide +kernel
theorem dX3_putIn_52 : decode cX3_putIn 52 = .ok (.iconst 1, 1) := by decide +kernel
theorem dX3_putIn_53 : decode cX3_putIn 53 = .ok (.iadd, 1) := by decide +kernel
theorem dX3_putIn_54 : decode cX3_putIn 54 = .ok (.putfield 9, 3) := by decide +kernel
theorem dX3_putIn_57 : decode cX3_putIn 57 = .ok (.return_, 1) := by decide +kernel
theorem dX3_takeOutAt_0 : decode cX3_takeOutAt 0 = .ok (.iload_n 1, 1) := by decide +kernel
theorem dX3_takeOutAt_1 : decode cX3_takeOutAt 1 = .ok (.ifCond .lt 11, 3) := by decide +kernel
theorem dX3_takeOutAt_4 : decode cX3_takeOutAt 4 = .ok (.iload_n 1, 1) := by decide +kernel
theorem dX3_takeOutAt_5 : decode cX3_takeOutAt 5 = .ok (.aload_n 0, 1) := by decide +kernel
theorem dX3_takeOutAt_6 : decode cX3_takeOutAt 6 = .ok (.getfield 9, 3) := by decide +kernel
theorem dX3_takeOutAt_9 : decode cX3_takeOutAt 9 = .ok (.if_icmp .lt 4, 3) := by decide +kernel
theorem dX3_takeOutAt_12 : decode cX3_takeOutAt 12 = .ok (.return_, 1) := by decide +kernel
theorem dX3_takeOutAt_13 : decode cX3_takeOutAt 13 = .ok (.aload_n 0, 1) := by decide +kernel
theorem dX3_takeOutAt_14 : decode cX3_takeOutAt 14 = .ok (.getfield 15, 3) := by decide +kernel
theorem dX3_takeOutAt_17 : decode cX3_takeOutAt 17 = .ok (.iload_n 1, 1) := by decide +kernel
theorem dX3_takeOutAt_18 : decode cX3_takeOutAt 18 = .ok (.iconst 1, 1) := by decide +kernel
theorem dX3_takeOutAt_19 : decode cX3_takeOutAt 19 = .ok (.iadd, 1) := by decide +kernel
theorem dX3_takeOutAt_20 : decode cX3_takeOutAt 20 = .ok (.aload_n 0, 1) := by decide +kernel
theorem dX3_takeOutAt_21 : decode cX3_takeOutAt 21 = .ok (.getfield 15, 3) := by decide +kernel
theorem dX3_takeOutAt_24 : decode cX3_takeOutAt 24 = .ok (.iload_n 1, 1) := by decide +kernel
theorem dX3_takeOutAt_25 : decode cX3_takeOutAt 25 = .ok (.aload_n 0, 1) := by decide +kernel
theorem dX3_takeOutAt_26 : decode cX3_takeOutAt 26 = .ok (.getfield 9, 3) := by decide +kernel
theorem dX3_takeOutAt_29 : decode cX3_takeOutAt 29 = .ok (.iload_n 1, 1) := by decide +kernel
theorem dX3_takeOutAt_30 : decode cX3_takeOutAt 30 = .ok (.isub, 1) := by decide +kernel
theorem dX3_takeOutAt_31 : decode cX3_takeOutAt 31 = .ok (.iconst 1, 1) := by decide +kernel
theorem dX3_takeOutAt_32 : decode cX3_takeOutAt 32 = .ok (.isub, 1) := by decide +kernel
theorem dX3_takeOutAt_33 : decode cX3_takeOutAt 33 = .ok (.invokestatic 23, 3) := by decide +kernel
theorem dX3_takeOutAt_36 : decode cX3_takeOutAt 36 = .ok (.aload_n 0, 1) := by decide +kernel
theorem dX3_takeOutAt_37 : decode cX3_takeOutAt 37 = .ok (.dup, 1) := by decide +kernel
theorem dX3_takeOutAt_38 : decode cX3_takeOutAt 38 = .ok (.getfield 9, 3) := by decide +kernel
theorem dX3_takeOutAt_41 : decode cX3_takeOutAt 41 = .ok (.iconst 1, 1) := by decide +kernel
theorem dX3_takeOutAt_42 : decode cX3_takeOutAt 42 = .ok (.isub, 1) := by decide +kernel
theorem dX3_takeOutAt_43 : decode cX3_takeOutAt 43 = .ok (.putfield 9, 3) := by decide +kernel
theorem dX3_takeOutAt_46 : decode cX3_takeOutAt 46 = .ok (.return_, 1) := by decide +kernel
theorem dJ7_fill_0 : decode cJ7_fill 0 = .ok (.iconst 0, 1) := by decide +kernel
theorem dJ7_fill_1 : decode cJ7_fill 1 = .ok (.istore_n 2, 1) := by decide +kernel
theorem dJ7_fill_2 : decode cJ7_fill 2 = .ok (.aload_n 0, 1) := by decide +kernel
theorem dJ7_fill_3 : decode cJ7_fill 3 = .ok (.arraylength, 1) := by decide +kernel
theorem dJ7_fill_4 : decode cJ7_fill 4 = .ok (.istore_n 3, 1) := by decide +kernel
theorem dJ7_fill_5 : decode cJ7_fill 5 = .ok (.iload_n 2, 1) := by decide +kernel
theorem dJ7_fill_6 : decode cJ7_fill 6 = .ok (.iload_n 3, 1) := by decide +kernel
theorem dJ7_fill_7 : decode cJ7_fill 7 = .ok (.if_icmp .ge 13, 3) := by decide +kernel
theorem dJ7_fill_10 : decode cJ7_fill 10 = .ok (.aload_n 0, 1) := by decide +kernel
theorem dJ7_fill_11 : decode cJ7_fill 11 = .ok (.iload_n 2, 1) := by decide +kernel
theorem dJ7_fill_12 : decode cJ7_fill 12 = .ok (.iload_n 1, 1) := by decide +kernel
theorem dJ7_fill_13 : decode cJ7_fill 13 = .ok (.iastore, 1) := by decide +kernel
theorem dJ7_fill_14 : decode cJ7_fill 14 = .ok (.iinc 2 1, 3) := by decide +kernel
theorem dJ7_fill_17 : decode cJ7_fill 17 = .ok (.goto (-12), 3) := by decide +kernel
theorem dJ7_fill_20 : decode cJ7_fill 20 = .ok (.return_, 1) := by decide +kernel
