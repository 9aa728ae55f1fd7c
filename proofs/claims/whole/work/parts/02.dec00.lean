theorem dX7_init_0 : decode cX7_init 0 = .ok (.aload_n 0, 1) := by decide +kernel
theorem dX7_init_1 : decode cX7_init 1 = .ok (.invokespecial 3, 3) := by decide +kernel
theorem dX7_init_4 : decode cX7_init 4 = .ok (.aload_n 0, 1) := by decide +kernel
theorem dX7_init_5 : decode cX7_init 5 = .ok (.iload_n 1, 1) := by decide +kernel
theorem dX7_init_6 : decode cX7_init 6 = .ok (.iconst 0, 1) := by decide +kernel
theorem dX7_init_7 : decode cX7_init 7 = .ok (.invokestatic 9, 3) := by decide +kernel
theorem dX7_init_10 : decode cX7_init 10 = .ok (.ldc 17, 2) := by decide +kernel
theorem dX7_init_12 : decode cX7_init 12 = .ok (.invokestatic 18, 3) := by decide +kernel
theorem dX7_init_15 : decode cX7_init 15 = .ok (.newarray .int, 2) := by decide +kernel
theorem dX7_init_17 : decode cX7_init 17 = .ok (.putfield 21, 3) := by decide +kernel
theorem dX7_init_20 : decode cX7_init 20 = .ok (.return_, 1) := by decide +kernel
theorem dX7_get_0 : decode cX7_get 0 = .ok (.iload_n 1, 1) := by decide +kernel
theorem dX7_get_1 : decode cX7_get 1 = .ok (.ifCond .lt 21, 3) := by decide +kernel
theorem dX7_get_4 : decode cX7_get 4 = .ok (.iload_n 1, 1) := by decide +kernel
theorem dX7_get_5 : decode cX7_get 5 = .ok (.aload_n 0, 1) := by decide +kernel
theorem dX7_get_6 : decode cX7_get 6 = .ok (.getfield 21, 3) := by decide +kernel
theorem dX7_get_9 : decode cX7_get 9 = .ok (.arraylength, 1) := by decide +kernel
theorem dX7_get_10 : decode cX7_get 10 = .ok (.if_icmp .ge 12, 3) := by decide +kernel
theorem dX7_get_13 : decode cX7_get 13 = .ok (.aload_n 0, 1) := by decide +kernel
theorem dX7_get_14 : decode cX7_get 14 = .ok (.getfield 21, 3) := by decide +kernel
theorem dX7_get_17 : decode cX7_get 17 = .ok (.iload_n 1, 1) := by decide +kernel
theorem dX7_get_18 : decode cX7_get 18 = .ok (.iaload, 1) := by decide +kernel
theorem dX7_get_19 : decode cX7_get 19 = .ok (.goto 4, 3) := by decide +kernel
theorem dX7_get_22 : decode cX7_get 22 = .ok (.iconst 0, 1) := by decide +kernel
theorem dX7_get_23 : decode cX7_get 23 = .ok (.ireturn, 1) := by decide +kernel
theorem dX7_put_0 : decode cX7_put 0 = .ok (.iload_n 1, 1) := by decide +kernel
theorem dX7_put_1 : decode cX7_put 1 = .ok (.ifCond .lt 19, 3) := by decide +kernel
theorem dX7_put_4 : decode cX7_put 4 = .ok (.iload_n 1, 1) := by decide +kernel
theorem dX7_put_5 : decode cX7_put 5 = .ok (.aload_n 0, 1) := by decide +kernel
theorem dX7_put_6 : decode cX7_put 6 = .ok (.getfield 21, 3) := by decide +kernel
theorem dX7_put_9 : decode cX7_put 9 = .ok (.arraylength, 1) := by decide +kernel
theorem dX7_put_10 : decode cX7_put 10 = .ok (.if_icmp .ge 10, 3) := by decide +kernel
theorem dX7_put_13 : decode cX7_put 13 = .ok (.aload_n 0, 1) := by decide +kernel
theorem dX7_put_14 : decode cX7_put 14 = .ok (.getfield 21, 3) := by decide +kernel
theorem dX7_put_17 : decode cX7_put 17 = .ok (.iload_n 1, 1) := by decide +kernel
theorem dX7_put_18 : decode cX7_put 18 = .ok (.iload_n 2, 1) := by decide +kernel
theorem dX7_put_19 : decode cX7_put 19 = .ok (.iastore, 1) := by decide +kernel
theorem dX7_put_20 : decode cX7_put 20 = .ok (.return_, 1) := by decide +kernel
theorem dX7_push_0 : decode cX7_push 0 = .ok (.aload_n 0, 1) := by decide +kernel
theorem dX7_push_1 : decode cX7_push 1 = .ok (.aload_n 0, 1) := by decide +kernel
theorem dX7_push_2 : decode cX7_push 2 = .ok (.getfield 25, 3) := by decide +kernel
theorem dX7_push_5 : decode cX7_push 5 = .ok (.iconst 1, 1) := by decide +kernel
theorem dX7_push_6 : decode cX7_push 6 = .ok (.iadd, 1) := by decide +kernel
theorem dX7_push_7 : decode cX7_push 7 = .ok (.invokevirtual 29, 3) := by decide +kernel
theorem dX7_push_10 : decode cX7_push 10 = .ok (.aload_n 0, 1) := by decide +kernel
theorem dX7_push_11 : decode cX7_push 11 = .ok (.getfield 25, 3) := by decide +kernel
theorem dX7_push_14 : decode cX7_push 14 = .ok (.aload_n 0, 1) := by decide +kernel
theorem dX7_push_15 : decode cX7_push 15 = .ok (.getfield 21, 3) := by decide +kernel
theorem dX7_push_18 : decode cX7_push 18 = .ok (.arraylength, 1) := by decide +kernel
theorem dX7_push_19 : decode cX7_push 19 = .ok (.if_icmp .ge 23, 3) := by decide +kernel
theorem dX7_push_22 : decode cX7_push 22 = .ok (.aload_n 0, 1) := by decide +kernel
theorem dX7_push_23 : decode cX7_push 23 = .ok (.getfield 21, 3) := by decide +kernel
theorem dX7_push_26 : decode cX7_push 26 = .ok (.aload_n 0, 1) := by decide +kernel
theorem dX7_push_27 : decode cX7_push 27 = .ok (.getfield 25, 3) := by decide +kernel
theorem dX7_push_30 : decode cX7_push 30 = .ok (.iload_n 1, 1) := by decide +kernel
theorem dX7_push_31 : decode cX7_push 31 = .ok (.iastore, 1) := by decide +kernel
theorem dX7_push_32 : decode cX7_push 32 = .ok (.aload_n 0, 1) := by decide +kernel
theorem dX7_push_33 : decode cX7_push 33 = .ok (.dup, 1) := by decide +kernel
theorem dX7_push_34 : decode cX7_push 34 = .ok (.getfield 25, 3) := by decide +kernel
theorem dX7_push_37 : decode cX7_push 37 = .ok (.iconst 1, 1) := by decide +kernel
theorem dX7_push_38 : decode cX7_push 38 = .ok (.iadd, 1) := by decide +kernel
theorem dX7_push_39 : decode cX7_push 39 = .ok (.putfield 25, 3) := by decide +kernel
theorem dX7_push_42 : decode cX7_push 42 = .ok (.return_, 1) := by decide +kernel
theorem dX7_stretch_0 : decode cX7_stretch 0 = .ok (.iload_n 1, 1) := by decide +kernel
theorem dX7_stretch_1 : decode cX7_stretch 1 = .ok (.aload_n 0, 1) := by decide +kernel
theorem dX7_stretch_2 : decode cX7_stretch 2 = .ok (.getfield 21, 3) := by decide +kernel
theorem dX7_stretch_5 : decode cX7_stretch 5 = .ok (.arraylength, 1) := by decide +kernel
theorem dX7_stretch_6 : decode cX7_stretch 6 = .ok (.if_icmp .le 36, 3) := by decide +kernel
theorem dX7_stretch_9 : decode cX7_stretch 9 = .ok (.iload_n 1, 1) := by decide +kernel
theorem dX7_stretch_10 : decode cX7_stretch 10 = .ok (.ldc 17, 2) := by decide +kernel
theorem dX7_stretch_12 : decode cX7_stretch 12 = .ok (.if_icmp .gt 30, 3) := by decide +kernel
theorem dX7_stretch_15 : decode cX7_stretch 15 = .ok (.aload_n 0, 1) := by decide +kernel
theorem dX7_stretch_16 : decode cX7_stretch 16 = .ok (.aload_n 0, 1) := by decide +kernel
theorem dX7_stretch_17 : decode cX7_stretch 17 = .ok (.getfield 21, 3) := by decide +kernel
theorem dX7_stretch_20 : decode cX7_stretch 20 = .ok (.iload_n 1, 1) := by decide +kernel
theorem dX7_stretch_21 : decode cX7_stretch 21 = .ok (.iconst 2, 1) := by decide +kernel
theorem dX7_stretch_22 : decode cX7_stretch 22 = .ok (.aload_n 0, 1) := by decide +kernel
theorem dX7_stretch_23 : decode cX7_stretch 23 = .ok (.getfield 21, 3) := by decide +kernel
theorem dX7_stretch_26 : decode cX7_stretch 26 = .ok (.arraylength, 1) := by decide +kernel
theorem dX7_stretch_27 : decode cX7_stretch 27 = .ok (.imul, 1) := by decide +kernel
theorem dX7_stretch_28 : decode cX7_stretch 28 = .ok (.invokestatic 9, 3) := by decide +kernel
theorem dX7_stretch_31 : decode cX7_stretch 31 = .ok (.ldc 17, 2) := by decide +kernel
theorem dX7_stretch_33 : decode cX7_stretch 33 = .ok (.invokestatic 18, 3) := by decide +kernel
theorem dX7_stretch_36 : decode cX7_stretch 36 = .ok (.invokestatic 33, 3) := by decide +kernel
theorem dX7_stretch_39 : decode cX7_stretch 39 = .ok (.putfield 21, 3) := by decide +kernel
theorem dX7_stretch_42 : decode cX7_stretch 42 = .ok (.return_, 1) := by decide +kernel
theorem dX7_wipe_0 : decode cX7_wipe 0 = .ok (.aload_n 0, 1) := by decide +kernel
theorem dX7_wipe_1 : decode cX7_wipe 1 = .ok (.iload_n 1, 1) := by decide +kernel
theorem dX7_wipe_2 : decode cX7_wipe 2 = .ok (.invokevirtual 29, 3) := by decide +kernel
theorem dX7_wipe_5 : decode cX7_wipe 5 = .ok (.iconst 0, 1) := by decide +kernel
theorem dX7_wipe_6 : decode cX7_wipe 6 = .ok (.istore_n 2, 1) := by decide +kernel
theorem dX7_wipe_7 : decode cX7_wipe 7 = .ok (.iload_n 2, 1) := by decide +kernel
theorem dX7_wipe_8 : decode cX7_wipe 8 = .ok (.iload_n 1, 1) := by decide +kernel
theorem dX7_wipe_9 : decode cX7_wipe 9 = .ok (.if_icmp .ge 25, 3) := by decide +kernel
theorem dX7_wipe_12 : decode cX7_wipe 12 = .ok (.iload_n 2, 1) := by decide +kernel
theorem dX7_wipe_13 : decode cX7_wipe 13 = .ok (.aload_n 0, 1) := by decide +kernel
theorem dX7_wipe_14 : decode cX7_wipe 14 = .ok (.getfield 21, 3) := by decide +kernel
theorem dX7_wipe_17 : decode cX7_wipe 17 = .ok (.arraylength, 1) := by decide +kernel
theorem dX7_wipe_18 : decode cX7_wipe 18 = .ok (.if_icmp .ge 16, 3) := by decide +kernel
theorem dX7_wipe_21 : decode cX7_wipe 21 = .ok (.aload_n 0, 1) := by decide +kernel
theorem dX7_wipe_22 : decode cX7_wipe 22 = .ok (.getfield 21, 3) := by decide +kernel
theorem dX7_wipe_25 : decode cX7_wipe 25 = .ok (.iload_n 2, 1) := by decide +kernel
theorem dX7_wipe_26 : decode cX7_wipe 26 = .ok (.iconst 0, 1) := by decide +kernel
theorem dX7_wipe_27 : decode cX7_wipe 27 = .ok (.iastore, 1) := by decide +kernel
theorem dX7_wipe_28 : decode cX7_wipe 28 = .ok (.iinc 2 1, 3) := by decide +kernel
theorem dX7_wipe_31 : decode cX7_wipe 31 = .ok (.goto (-24), 3) := by decide +kernel
theorem dX7_wipe_34 : decode cX7_wipe 34 = .ok (.aload_n 0, 1) := by decide +kernel
theorem dX7_wipe_35 : decode cX7_wipe 35 = .ok (.iconst 0, 1) := by decide +kernel
theorem dX7_wipe_36 : decode cX7_wipe 36 = .ok (.putfield 25, 3) := by decide +kernel
theorem dX7_wipe_39 : decode cX7_wipe 39 = .ok (.return_, 1) := by decide +kernel
theorem dX9_init_0 : decode cX9_init 0 = .ok (.aload_n 0, 1) := by decide +kernel
theorem dX9_init_1 : decode cX9_init 1 = .ok (.invokespecial 3, 3) := by decide +kernel
theorem dX9_init_4 : decode cX9_init 4 = .ok (.aload_n 0, 1) := by decide +kernel
theorem dX9_init_5 : decode cX9_init 5 = .ok (.new 9, 3) := by decide +kernel
theorem dX9_init_8 : decode cX9_init 8 = .ok (.dup, 1) := by decide +kernel
theorem dX9_init_9 : decode cX9_init 9 = .ok (.sipush 400, 3) := by decide +kernel
theorem dX9_init_12 : decode cX9_init 12 = .ok (.invokespecial 13, 3) := by decide +kernel
theorem dX9_init_15 : decode cX9_init 15 = .ok (.putfield 16, 3) := by decide +kernel
theorem dX9_init_18 : decode cX9_init 18 = .ok (.aload_n 0, 1) := by decide +kernel
theorem dX9_init_19 : decode cX9_init 19 = .ok (.iconst (-1), 1) := by decide +kernel
theorem dX9_init_20 : decode cX9_init 20 = .ok (.putfield 20, 3) := by decide +kernel
theorem dX9_init_23 : decode cX9_init 23 = .ok (.return_, 1) := by decide +kernel
theorem dX9_hasRoom_0 : decode cX9_hasRoom 0 = .ok (.aload_n 0, 1) := by decide +kernel
theorem dX9_hasRoom_1 : decode cX9_hasRoom 1 = .ok (.getfield 24, 3) := by decide +kernel
theorem dX9_hasRoom_4 : decode cX9_hasRoom 4 = .ok (.bipush 20, 2) := by decide +kernel
theorem dX9_hasRoom_6 : decode cX9_hasRoom 6 = .ok (.iadd, 1) := by decide +kernel
theorem dX9_hasRoom_7 : decode cX9_hasRoom 7 = .ok (.sipush 400, 3) := by decide +kernel
theorem dX9_hasRoom_10 : decode cX9_hasRoom 10 = .ok (.if_icmp .gt 7, 3) := by decide +kernel
theorem dX9_hasRoom_13 : decode cX9_hasRoom 13 = .ok (.iconst 1, 1) := by decide +kernel
theorem dX9_hasRoom_14 : decode cX9_hasRoom 14 = .ok (.goto 4, 3) := by decide +kernel
theorem dX9_hasRoom_17 : decode cX9_hasRoom 17 = .ok (.iconst 0, 1) := by decide +kernel
theorem dX9_hasRoom_18 : decode cX9_hasRoom 18 = .ok (.ireturn, 1) := by decide +kernel
theorem dX9_append_0 : decode cX9_append 0 = .ok (.bipush 24, 2) := by decide +kernel
theorem dX9_append_2 : decode cX9_append 2 = .ok (.istore_n 2, 1) := by decide +kernel
theorem dX9_append_3 : decode cX9_append 3 = .ok (.iload_n 2, 1) := by decide +kernel
theorem dX9_append_4 : decode cX9_append 4 = .ok (.ifCond .lt 37, 3) := by decide +kernel
theorem dX9_append_7 : decode cX9_append 7 = .ok (.aload_n 0, 1) := by decide +kernel
theorem dX9_append_8 : decode cX9_append 8 = .ok (.getfield 16, 3) := by decide +kernel
theorem dX9_append_11 : decode cX9_append 11 = .ok (.aload_n 0, 1) := by decide +kernel
theorem dX9_append_12 : decode cX9_append 12 = .ok (.getfield 24, 3) := by decide +kernel
theorem dX9_append_15 : decode cX9_append 15 = .ok (.iload_n 1, 1) := by decide +kernel
theorem dX9_append_16 : decode cX9_append 16 = .ok (.iload_n 2, 1) := by decide +kernel
theorem dX9_append_17 : decode cX9_append 17 = .ok (.ishr, 1) := by decide +kernel
theorem dX9_append_18 : decode cX9_append 18 = .ok (.sipush 255, 3) := by decide +kernel
theorem dX9_append_21 : decode cX9_append 21 = .ok (.iand, 1) := by decide +kernel
theorem dX9_append_22 : decode cX9_append 22 = .ok (.invokevirtual 27, 3) := by decide +kernel
theorem dX9_append_25 : decode cX9_append 25 = .ok (.aload_n 0, 1) := by decide +kernel
theorem dX9_append_26 : decode cX9_append 26 = .ok (.dup, 1) := by decide +kernel
theorem dX9_append_27 : decode cX9_append 27 = .ok (.getfield 24, 3) := by decide +kernel
theorem dX9_append_30 : decode cX9_append 30 = .ok (.iconst 1, 1) := by decide +kernel
theorem dX9_append_31 : decode cX9_append 31 = .ok (.iadd, 1) := by decide +kernel
theorem dX9_append_32 : decode cX9_append 32 = .ok (.putfield 24, 3) := by decide +kernel
theorem dX9_append_35 : decode cX9_append 35 = .ok (.iinc 2 (-8), 3) := by decide +kernel
theorem dX9_append_38 : decode cX9_append 38 = .ok (.goto (-35), 3) := by decide +kernel
theorem dX9_append_41 : decode cX9_append 41 = .ok (.return_, 1) := by decide +kernel
theorem dX9_holds_0 : decode cX9_holds 0 = .ok (.iload_n 1, 1) := by decide +kernel
theorem dX9_holds_1 : decode cX9_holds 1 = .ok (.ifCond .lt 15, 3) := by decide +kernel
theorem dX9_holds_4 : decode cX9_holds 4 = .ok (.iload_n 1, 1) := by decide +kernel
theorem dX9_holds_5 : decode cX9_holds 5 = .ok (.aload_n 0, 1) := by decide +kernel
theorem dX9_holds_6 : decode cX9_holds 6 = .ok (.getfield 24, 3) := by decide +kernel
theorem dX9_holds_9 : decode cX9_holds 9 = .ok (.if_icmp .gt 7, 3) := by decide +kernel
theorem dX9_holds_12 : decode cX9_holds 12 = .ok (.iconst 1, 1) := by decide +kernel
theorem dX9_holds_13 : decode cX9_holds 13 = .ok (.goto 4, 3) := by decide +kernel
theorem dX9_holds_16 : decode cX9_holds 16 = .ok (.iconst 0, 1) := by decide +kernel
theorem dX9_holds_17 : decode cX9_holds 17 = .ok (.ireturn, 1) := by decide +kernel
theorem dX9_open_0 : decode cX9_open 0 = .ok (.aload_n 0, 1) := by decide +kernel
theorem dX9_open_1 : decode cX9_open 1 = .ok (.iload_n 1, 1) := by decide +kernel
theorem dX9_open_2 : decode cX9_open 2 = .ok (.putfield 31, 3) := by decide +kernel
theorem dX9_open_5 : decode cX9_open 5 = .ok (.aload_n 0, 1) := by decide +kernel
theorem dX9_open_6 : decode cX9_open 6 = .ok (.iconst 0, 1) := by decide +kernel
theorem dX9_open_7 : decode cX9_open 7 = .ok (.putfield 34, 3) := by decide +kernel
theorem dX9_open_10 : decode cX9_open 10 = .ok (.aload_n 0, 1) := by decide +kernel
theorem dX9_open_11 : decode cX9_open 11 = .ok (.iconst 0, 1) := by decide +kernel
theorem dX9_open_12 : decode cX9_open 12 = .ok (.putfield 24, 3) := by decide +kernel
theorem dX9_open_15 : decode cX9_open 15 = .ok (.aload_n 0, 1) := by decide +kernel
theorem dX9_open_16 : decode cX9_open 16 = .ok (.iconst 0, 1) := by decide +kernel
theorem dX9_open_17 : decode cX9_open 17 = .ok (.putfield 37, 3) := by decide +kernel
theorem dX9_open_20 : decode cX9_open 20 = .ok (.aload_n 0, 1) := by decide +kernel
theorem dX9_open_21 : decode cX9_open 21 = .ok (.iconst (-1), 1) := by decide +kernel
theorem dX9_open_22 : decode cX9_open 22 = .ok (.putfield 20, 3) := by decide +kernel
theorem dX9_open_25 : decode cX9_open 25 = .ok (.return_, 1) := by decide +kernel
theorem dX9_blame_0 : decode cX9_blame 0 = .ok (.aload_n 0, 1) := by decide +kernel
theorem dX9_blame_1 : decode cX9_blame 1 = .ok (.iload_n 1, 1) := by decide +kernel
theorem dX9_blame_2 : decode cX9_blame 2 = .ok (.putfield 37, 3) := by decide +kernel
theorem dX9_blame_5 : decode cX9_blame 5 = .ok (.aload_n 0, 1) := by decide +kernel
theorem dX9_blame_6 : decode cX9_blame 6 = .ok (.iload_n 2, 1) := by decide +kernel
theorem dX9_blame_7 : decode cX9_blame 7 = .ok (.putfield 20, 3) := by decide +kernel
theorem dX9_blame_10 : decode cX9_blame 10 = .ok (.iconst 0, 1) := by decide +kernel
theorem dX9_blame_11 : decode cX9_blame 11 = .ok (.ireturn, 1) := by decide +kernel
theorem dX9_byteAt_0 : decode cX9_byteAt 0 = .ok (.iload_n 1, 1) := by decide +kernel
theorem dX9_byteAt_1 : decode cX9_byteAt 1 = .ok (.ifCond .lt 22, 3) := by decide +kernel
theorem dX9_byteAt_4 : decode cX9_byteAt 4 = .ok (.iload_n 1, 1) := by decide +kernel
theorem dX9_byteAt_5 : decode cX9_byteAt 5 = .ok (.aload_n 0, 1) := by decide +kernel
theorem dX9_byteAt_6 : decode cX9_byteAt 6 = .ok (.getfield 31, 3) := by decide +kernel
theorem dX9_byteAt_9 : decode cX9_byteAt 9 = .ok (.if_icmp .ge 14, 3) := by decide +kernel
theorem dX9_byteAt_12 : decode cX9_byteAt 12 = .ok (.aload_n 0, 1) := by decide +kernel
theorem dX9_byteAt_13 : decode cX9_byteAt 13 = .ok (.getfield 16, 3) := by decide +kernel
theorem dX9_byteAt_16 : decode cX9_byteAt 16 = .ok (.iload_n 1, 1) := by decide +kernel
theorem dX9_byteAt_17 : decode cX9_byteAt 17 = .ok (.invokevirtual 40, 3) := by decide +kernel
theorem dX9_byteAt_20 : decode cX9_byteAt 20 = .ok (.goto 4, 3) := by decide +kernel
theorem dX9_byteAt_23 : decode cX9_byteAt 23 = .ok (.iconst 0, 1) := by decide +kernel
theorem dX9_byteAt_24 : decode cX9_byteAt 24 = .ok (.ireturn, 1) := by decide +kernel
theorem dX9_step_0 : decode cX9_step 0 = .ok (.aload_n 0, 1) := by decide +kernel
theorem dX9_step_1 : decode cX9_step 1 = .ok (.getfield 34, 3) := by decide +kernel
theorem dX9_step_4 : decode cX9_step 4 = .ok (.istore_n 1, 1) := by decide +kernel
theorem dX9_step_5 : decode cX9_step 5 = .ok (.iload_n 1, 1) := by decide +kernel
theorem dX9_step_6 : decode cX9_step 6 = .ok (.aload_n 0, 1) := by decide +kernel
theorem dX9_step_7 : decode cX9_step 7 = .ok (.getfield 31, 3) := by decide +kernel
theorem dX9_step_10 : decode cX9_step 10 = .ok (.if_icmp .ge 22, 3) := by decide +kernel
theorem dX9_step_13 : decode cX9_step 13 = .ok (.aload_n 0, 1) := by decide +kernel
theorem dX9_step_14 : decode cX9_step 14 = .ok (.getfield 16, 3) := by decide +kernel
theorem dX9_step_17 : decode cX9_step 17 = .ok (.iload_n 1, 1) := by decide +kernel
theorem dX9_step_18 : decode cX9_step 18 = .ok (.invokevirtual 40, 3) := by decide +kernel
theorem dX9_step_21 : decode cX9_step 21 = .ok (.bipush 32, 2) := by decide +kernel
theorem dX9_step_23 : decode cX9_step 23 = .ok (.if_icmp .ne 9, 3) := by decide +kernel
theorem dX9_step_26 : decode cX9_step 26 = .ok (.iinc 1 1, 3) := by decide +kernel
theorem dX9_step_29 : decode cX9_step 29 = .ok (.goto (-24), 3) := by decide +kernel
theorem dX9_step_32 : decode cX9_step 32 = .ok (.aload_n 0, 1) := by decide +kernel
theorem dX9_step_33 : decode cX9_step 33 = .ok (.iload_n 1, 1) := by decide +kernel
theorem dX9_step_34 : decode cX9_step 34 = .ok (.putfield 44, 3) := by decide +kernel
theorem dX9_step_37 : decode cX9_step 37 = .ok (.aload_n 0, 1) := by decide +kernel
theorem dX9_step_38 : decode cX9_step 38 = .ok (.iload_n 1, 1) := by decide +kernel
theorem dX9_step_39 : decode cX9_step 39 = .ok (.invokevirtual 47, 3) := by decide +kernel
theorem dX9_step_42 : decode cX9_step 42 = .ok (.istore_n 2, 1) := by decide +kernel
theorem dX9_step_43 : decode cX9_step 43 = .ok (.iload_n 1, 1) := by decide +kernel
theorem dX9_step_44 : decode cX9_step 44 = .ok (.aload_n 0, 1) := by decide +kernel
theorem dX9_step_45 : decode cX9_step 45 = .ok (.getfield 31, 3) := by decide +kernel
theorem dX9_step_48 : decode cX9_step 48 = .ok (.if_icmp .lt 16, 3) := by decide +kernel
theorem dX9_step_51 : decode cX9_step 51 = .ok (.aload_n 0, 1) := by decide +kernel
theorem dX9_step_52 : decode cX9_step 52 = .ok (.iconst 0, 1) := by decide +kernel
theorem dX9_step_53 : decode cX9_step 53 = .ok (.putfield 50, 3) := by decide +kernel
theorem dX9_step_56 : decode cX9_step 56 = .ok (.aload_n 0, 1) := by decide +kernel
theorem dX9_step_57 : decode cX9_step 57 = .ok (.iconst 0, 1) := by decide +kernel
theorem dX9_step_58 : decode cX9_step 58 = .ok (.putfield 53, 3) := by decide +kernel
theorem dX9_step_61 : decode cX9_step 61 = .ok (.goto 109, 3) := by decide +kernel
theorem dX9_step_64 : decode cX9_step 64 = .ok (.iload_n 2, 1) := by decide +kernel
theorem dX9_step_65 : decode cX9_step 65 = .ok (.invokestatic 56, 3) := by decide +kernel
theorem dX9_step_68 : decode cX9_step 68 = .ok (.ifCond .eq 33, 3) := by decide +kernel
theorem dX9_step_71 : decode cX9_step 71 = .ok (.aload_n 0, 1) := by decide +kernel
theorem dX9_step_72 : decode cX9_step 72 = .ok (.aload_n 0, 1) := by decide +kernel
theorem dX9_step_73 : decode cX9_step 73 = .ok (.iload_n 1, 1) := by decide +kernel
theorem dX9_step_74 : decode cX9_step 74 = .ok (.invokevirtual 60, 3) := by decide +kernel
theorem dX9_step_77 : decode cX9_step 77 = .ok (.putfield 50, 3) := by decide +kernel
theorem dX9_step_80 : decode cX9_step 80 = .ok (.aload_n 0, 1) := by decide +kernel
theorem dX9_step_81 : decode cX9_step 81 = .ok (.aload_n 0, 1) := by decide +kernel
theorem dX9_step_82 : decode cX9_step 82 = .ok (.getfield 50, 3) := by decide +kernel
theorem dX9_step_85 : decode cX9_step 85 = .ok (.bipush 7, 2) := by decide +kernel
theorem dX9_step_87 : decode cX9_step 87 = .ok (.if_icmp .gt 7, 3) := by decide +kernel
theorem dX9_step_90 : decode cX9_step 90 = .ok (.iconst 2, 1) := by decide +kernel
theorem dX9_step_91 : decode cX9_step 91 = .ok (.goto 4, 3) := by decide +kernel
theorem dX9_step_94 : decode cX9_step 94 = .ok (.iconst 1, 1) := by decide +kernel
theorem dX9_step_95 : decode cX9_step 95 = .ok (.putfield 53, 3) := by decide +kernel
theorem dX9_step_98 : decode cX9_step 98 = .ok (.goto 72, 3) := by decide +kernel
theorem dX9_step_101 : decode cX9_step 101 = .ok (.iload_n 2, 1) := by decide +kernel
theorem dX9_step_102 : decode cX9_step 102 = .ok (.invokestatic 63, 3) := by decide +kernel
theorem dX9_step_105 : decode cX9_step 105 = .ok (.ifCond .eq 33, 3) := by decide +kernel
theorem dX9_step_108 : decode cX9_step 108 = .ok (.aload_n 0, 1) := by decide +kernel
theorem dX9_step_109 : decode cX9_step 109 = .ok (.iconst 1, 1) := by decide +kernel
theorem dX9_step_110 : decode cX9_step 110 = .ok (.putfield 50, 3) := by decide +kernel
theorem dX9_step_113 : decode cX9_step 113 = .ok (.aload_n 0, 1) := by decide +kernel
theorem dX9_step_114 : decode cX9_step 114 = .ok (.aload_n 0, 1) := by decide +kernel
theorem dX9_step_115 : decode cX9_step 115 = .ok (.iload_n 1, 1) := by decide +kernel
theorem dX9_step_116 : decode cX9_step 116 = .ok (.iconst 1, 1) := by decide +kernel
theorem dX9_step_117 : decode cX9_step 117 = .ok (.iadd, 1) := by decide +kernel
theorem dX9_step_118 : decode cX9_step 118 = .ok (.invokevirtual 47, 3) := by decide +kernel
theorem dX9_step_121 : decode cX9_step 121 = .ok (.invokestatic 63, 3) := by decide +kernel
theorem dX9_step_124 : decode cX9_step 124 = .ok (.ifCond .eq 7, 3) := by decide +kernel
theorem dX9_step_127 : decode cX9_step 127 = .ok (.iconst 1, 1) := by decide +kernel
theorem dX9_step_128 : decode cX9_step 128 = .ok (.goto 4, 3) := by decide +kernel
theorem dX9_step_131 : decode cX9_step 131 = .ok (.iconst 3, 1) := by decide +kernel
theorem dX9_step_132 : decode cX9_step 132 = .ok (.putfield 53, 3) := by decide +kernel
theorem dX9_step_135 : decode cX9_step 135 = .ok (.goto 35, 3) := by decide +kernel
theorem dX9_step_138 : decode cX9_step 138 = .ok (.aload_n 0, 1) := by decide +kernel
theorem dX9_step_139 : decode cX9_step 139 = .ok (.iconst 1, 1) := by decide +kernel
theorem dX9_step_140 : decode cX9_step 140 = .ok (.putfield 50, 3) := by decide +kernel
theorem dX9_step_143 : decode cX9_step 143 = .ok (.aload_n 0, 1) := by decide +kernel
theorem dX9_step_144 : decode cX9_step 144 = .ok (.iload_n 2, 1) := by decide +kernel
theorem dX9_step_145 : decode cX9_step 145 = .ok (.bipush 59, 2) := by decide +kernel
theorem dX9_step_147 : decode cX9_step 147 = .ok (.if_icmp .eq 15, 3) := by decide +kernel
theorem dX9_step_150 : decode cX9_step 150 = .ok (.iload_n 2, 1) := by decide +kernel
theorem dX9_step_151 : decode cX9_step 151 = .ok (.bipush 40, 2) := by decide +kernel
theorem dX9_step_153 : decode cX9_step 153 = .ok (.if_icmp .eq 9, 3) := by decide +kernel
theorem dX9_step_156 : decode cX9_step 156 = .ok (.iload_n 2, 1) := by decide +kernel
theorem dX9_step_157 : decode cX9_step 157 = .ok (.bipush 41, 2) := by decide +kernel
theorem dX9_step_159 : decode cX9_step 159 = .ok (.if_icmp .ne 7, 3) := by decide +kernel
theorem dX9_step_162 : decode cX9_step 162 = .ok (.iload_n 2, 1) := by decide +kernel
theorem dX9_step_163 : decode cX9_step 163 = .ok (.goto 4, 3) := by decide +kernel
theorem dX9_step_166 : decode cX9_step 166 = .ok (.iconst 1, 1) := by decide +kernel
theorem dX9_step_167 : decode cX9_step 167 = .ok (.putfield 53, 3) := by decide +kernel
theorem dX9_step_170 : decode cX9_step 170 = .ok (.aload_n 0, 1) := by decide +kernel
theorem dX9_step_171 : decode cX9_step 171 = .ok (.iload_n 1, 1) := by decide +kernel
theorem dX9_step_172 : decode cX9_step 172 = .ok (.aload_n 0, 1) := by decide +kernel
theorem dX9_step_173 : decode cX9_step 173 = .ok (.getfield 50, 3) := by decide +kernel
theorem dX9_step_176 : decode cX9_step 176 = .ok (.iadd, 1) := by decide +kernel
theorem dX9_step_177 : decode cX9_step 177 = .ok (.putfield 34, 3) := by decide +kernel
theorem dX9_step_180 : decode cX9_step 180 = .ok (.return_, 1) := by decide +kernel
theorem dX9_spells_0 : decode cX9_spells 0 = .ok (.aload_n 0, 1) := by decide +kernel
theorem dX9_spells_1 : decode cX9_spells 1 = .ok (.getfield 53, 3) := by decide +kernel
theorem dX9_spells_4 : decode cX9_spells 4 = .ok (.iconst 2, 1) := by decide +kernel
theorem dX9_spells_5 : decode cX9_spells 5 = .ok (.if_icmp .ne 14, 3) := by decide +kernel
theorem dX9_spells_8 : decode cX9_spells 8 = .ok (.aload_n 0, 1) := by decide +kernel
theorem dX9_spells_9 : decode cX9_spells 9 = .ok (.getfield 50, 3) := by decide +kernel
theorem dX9_spells_12 : decode cX9_spells 12 = .ok (.aload_n 1, 1) := by decide +kernel
theorem dX9_spells_13 : decode cX9_spells 13 = .ok (.invokevirtual 66, 3) := by decide +kernel
theorem dX9_spells_16 : decode cX9_spells 16 = .ok (.if_icmp .eq 5, 3) := by decide +kernel
theorem dX9_spells_19 : decode cX9_spells 19 = .ok (.iconst 0, 1) := by decide +kernel
theorem dX9_spells_20 : decode cX9_spells 20 = .ok (.ireturn, 1) := by decide +kernel
theorem dX9_spells_21 : decode cX9_spells 21 = .ok (.iconst 0, 1) := by decide +kernel
theorem dX9_spells_22 : decode cX9_spells 22 = .ok (.istore_n 2, 1) := by decide +kernel
theorem dX9_spells_23 : decode cX9_spells 23 = .ok (.iload_n 2, 1) := by decide +kernel
theorem dX9_spells_24 : decode cX9_spells 24 = .ok (.aload_n 0, 1) := by decide +kernel
theorem dX9_spells_25 : decode cX9_spells 25 = .ok (.getfield 50, 3) := by decide +kernel
theorem dX9_spells_28 : decode cX9_spells 28 = .ok (.if_icmp .ge 32, 3) := by decide +kernel
theorem dX9_spells_31 : decode cX9_spells 31 = .ok (.aload_n 0, 1) := by decide +kernel
theorem dX9_spells_32 : decode cX9_spells 32 = .ok (.getfield 16, 3) := by decide +kernel
theorem dX9_spells_35 : decode cX9_spells 35 = .ok (.aload_n 0, 1) := by decide +kernel
theorem dX9_spells_36 : decode cX9_spells 36 = .ok (.getfield 44, 3) := by decide +kernel
theorem dX9_spells_39 : decode cX9_spells 39 = .ok (.iload_n 2, 1) := by decide +kernel
theorem dX9_spells_40 : decode cX9_spells 40 = .ok (.iadd, 1) := by decide +kernel
theorem dX9_spells_41 : decode cX9_spells 41 = .ok (.invokevirtual 40, 3) := by decide +kernel
theorem dX9_spells_44 : decode cX9_spells 44 = .ok (.aload_n 1, 1) := by decide +kernel
theorem dX9_spells_45 : decode cX9_spells 45 = .ok (.iload_n 2, 1) := by decide +kernel
theorem dX9_spells_46 : decode cX9_spells 46 = .ok (.invokevirtual 71, 3) := by decide +kernel
theorem dX9_spells_49 : decode cX9_spells 49 = .ok (.if_icmp .eq 5, 3) := by decide +kernel
theorem dX9_spells_52 : decode cX9_spells 52 = .ok (.iconst 0, 1) := by decide +kernel
theorem dX9_spells_53 : decode cX9_spells 53 = .ok (.ireturn, 1) := by decide +kernel
theorem dX9_spells_54 : decode cX9_spells 54 = .ok (.iinc 2 1, 3) := by decide +kernel
theorem dX9_spells_57 : decode cX9_spells 57 = .ok (.goto (-34), 3) := by decide +kernel
theorem dX9_spells_60 : decode cX9_spells 60 = .ok (.iconst 1, 1) := by decide +kernel
theorem dX9_spells_61 : decode cX9_spells 61 = .ok (.ireturn, 1) := by decide +kernel
theorem dX9_whole_0 : decode cX9_whole 0 = .ok (.aload_n 0, 1) := by decide +kernel
theorem dX9_whole_1 : decode cX9_whole 1 = .ok (.invokevirtual 75, 3) := by decide +kernel
theorem dX9_whole_4 : decode cX9_whole 4 = .ok (.aload_n 0, 1) := by decide +kernel
theorem dX9_whole_5 : decode cX9_whole 5 = .ok (.getfield 53, 3) := by decide +kernel
theorem dX9_whole_8 : decode cX9_whole 8 = .ok (.iconst 3, 1) := by decide +kernel
theorem dX9_whole_9 : decode cX9_whole 9 = .ok (.if_icmp .eq 15, 3) := by decide +kernel
theorem dX9_whole_12 : decode cX9_whole 12 = .ok (.aload_n 0, 1) := by decide +kernel
theorem dX9_whole_13 : decode cX9_whole 13 = .ok (.iconst 1, 1) := by decide +kernel
theorem dX9_whole_14 : decode cX9_whole 14 = .ok (.aload_n 0, 1) := by decide +kernel
theorem dX9_whole_15 : decode cX9_whole 15 = .ok (.getfield 44, 3) := by decide +kernel
theorem dX9_whole_18 : decode cX9_whole 18 = .ok (.invokevirtual 78, 3) := by decide +kernel
theorem dX9_whole_21 : decode cX9_whole 21 = .ok (.pop, 1) := by decide +kernel
theorem dX9_whole_22 : decode cX9_whole 22 = .ok (.iconst (-1), 1) := by decide +kernel
theorem dX9_whole_23 : decode cX9_whole 23 = .ok (.ireturn, 1) := by decide +kernel
theorem dX9_whole_24 : decode cX9_whole 24 = .ok (.aload_n 0, 1) := by decide +kernel
theorem dX9_whole_25 : decode cX9_whole 25 = .ok (.aload_n 0, 1) := by decide +kernel
theorem dX9_whole_26 : decode cX9_whole 26 = .ok (.getfield 44, 3) := by decide +kernel
theorem dX9_whole_29 : decode cX9_whole 29 = .ok (.invokevirtual 47, 3) := by decide +kernel
theorem dX9_whole_32 : decode cX9_whole 32 = .ok (.bipush 48, 2) := by decide +kernel
theorem dX9_whole_34 : decode cX9_whole 34 = .ok (.isub, 1) := by decide +kernel
theorem dX9_whole_35 : decode cX9_whole 35 = .ok (.istore_n 3, 1) := by decide +kernel
theorem dX9_whole_36 : decode cX9_whole 36 = .ok (.iload_n 3, 1) := by decide +kernel
theorem dX9_whole_37 : decode cX9_whole 37 = .ok (.iload_n 1, 1) := by decide +kernel
theorem dX9_whole_38 : decode cX9_whole 38 = .ok (.if_icmp .lt 8, 3) := by decide +kernel
theorem dX9_whole_41 : decode cX9_whole 41 = .ok (.iload_n 3, 1) := by decide +kernel
theorem dX9_whole_42 : decode cX9_whole 42 = .ok (.iload_n 2, 1) := by decide +kernel
theorem dX9_whole_43 : decode cX9_whole 43 = .ok (.if_icmp .le 15, 3) := by decide +kernel
theorem dX9_whole_46 : decode cX9_whole 46 = .ok (.aload_n 0, 1) := by decide +kernel
theorem dX9_whole_47 : decode cX9_whole 47 = .ok (.iconst 2, 1) := by decide +kernel
theorem dX9_whole_48 : decode cX9_whole 48 = .ok (.aload_n 0, 1) := by decide +kernel
theorem dX9_whole_49 : decode cX9_whole 49 = .ok (.getfield 44, 3) := by decide +kernel
theorem dX9_whole_52 : decode cX9_whole 52 = .ok (.invokevirtual 78, 3) := by decide +kernel
theorem dX9_whole_55 : decode cX9_whole 55 = .ok (.pop, 1) := by decide +kernel
theorem dX9_whole_56 : decode cX9_whole 56 = .ok (.iconst (-1), 1) := by decide +kernel
theorem dX9_whole_57 : decode cX9_whole 57 = .ok (.ireturn, 1) := by decide +kernel
theorem dX9_whole_58 : decode cX9_whole 58 = .ok (.iload_n 3, 1) := by decide +kernel
theorem dX9_whole_59 : decode cX9_whole 59 = .ok (.ireturn, 1) := by decide +kernel
theorem dX9_runOfSmall_0 : decode cX9_runOfSmall 0 = .ok (.iload_n 1, 1) := by decide +kernel
theorem dX9_runOfSmall_1 : decode cX9_runOfSmall 1 = .ok (.istore_n 2, 1) := by decide +kernel
theorem dX9_runOfSmall_2 : decode cX9_runOfSmall 2 = .ok (.iload_n 2, 1) := by decide +kernel
theorem dX9_runOfSmall_3 : decode cX9_runOfSmall 3 = .ok (.aload_n 0, 1) := by decide +kernel
theorem dX9_runOfSmall_4 : decode cX9_runOfSmall 4 = .ok (.getfield 31, 3) := by decide +kernel
theorem dX9_runOfSmall_7 : decode cX9_runOfSmall 7 = .ok (.if_icmp .ge 23, 3) := by decide +kernel
theorem dX9_runOfSmall_10 : decode cX9_runOfSmall 10 = .ok (.aload_n 0, 1) := by decide +kernel
theorem dX9_runOfSmall_11 : decode cX9_runOfSmall 11 = .ok (.getfield 16, 3) := by decide +kernel
theorem dX9_runOfSmall_14 : decode cX9_runOfSmall 14 = .ok (.iload_n 2, 1) := by decide +kernel
theorem dX9_runOfSmall_15 : decode cX9_runOfSmall 15 = .ok (.invokevirtual 40, 3) := by decide +kernel
theorem dX9_runOfSmall_18 : decode cX9_runOfSmall 18 = .ok (.invokestatic 56, 3) := by decide +kernel
theorem dX9_runOfSmall_21 : decode cX9_runOfSmall 21 = .ok (.ifCond .eq 9, 3) := by decide +kernel
theorem dX9_runOfSmall_24 : decode cX9_runOfSmall 24 = .ok (.iinc 2 1, 3) := by decide +kernel
theorem dX9_runOfSmall_27 : decode cX9_runOfSmall 27 = .ok (.goto (-25), 3) := by decide +kernel
theorem dX9_runOfSmall_30 : decode cX9_runOfSmall 30 = .ok (.iload_n 2, 1) := by decide +kernel
theorem dX9_runOfSmall_31 : decode cX9_runOfSmall 31 = .ok (.iload_n 1, 1) := by decide +kernel
theorem dX9_runOfSmall_32 : decode cX9_runOfSmall 32 = .ok (.isub, 1) := by decide +kernel
theorem dX9_runOfSmall_33 : decode cX9_runOfSmall 33 = .ok (.ireturn, 1) := by decide +kernel
theorem dX9_isSmall_0 : decode cX9_isSmall 0 = .ok (.iload_n 0, 1) := by decide +kernel
theorem dX9_isSmall_1 : decode cX9_isSmall 1 = .ok (.bipush 97, 2) := by decide +kernel
theorem dX9_isSmall_3 : decode cX9_isSmall 3 = .ok (.if_icmp .lt 13, 3) := by decide +kernel
theorem dX9_isSmall_6 : decode cX9_isSmall 6 = .ok (.iload_n 0, 1) := by decide +kernel
theorem dX9_isSmall_7 : decode cX9_isSmall 7 = .ok (.bipush 122, 2) := by decide +kernel
theorem dX9_isSmall_9 : decode cX9_isSmall 9 = .ok (.if_icmp .gt 7, 3) := by decide +kernel
theorem dX9_isSmall_12 : decode cX9_isSmall 12 = .ok (.iconst 1, 1) := by decide +kernel
theorem dX9_isSmall_13 : decode cX9_isSmall 13 = .ok (.goto 4, 3) := by decide +kernel
theorem dX9_isSmall_16 : decode cX9_isSmall 16 = .ok (.iconst 0, 1) := by decide +kernel
theorem dX9_isSmall_17 : decode cX9_isSmall 17 = .ok (.ireturn, 1) := by decide +kernel
theorem dX9_isDigit_0 : decode cX9_isDigit 0 = .ok (.iload_n 0, 1) := by decide +kernel
theorem dX9_isDigit_1 : decode cX9_isDigit 1 = .ok (.bipush 48, 2) := by decide +kernel
theorem dX9_isDigit_3 : decode cX9_isDigit 3 = .ok (.if_icmp .lt 13, 3) := by decide +kernel
theorem dX9_isDigit_6 : decode cX9_isDigit 6 = .ok (.iload_n 0, 1) := by decide +kernel
theorem dX9_isDigit_7 : decode cX9_isDigit 7 = .ok (.bipush 57, 2) := by decide +kernel
theorem dX9_isDigit_9 : decode cX9_isDigit 9 = .ok (.if_icmp .gt 7, 3) := by decide +kernel
theorem dX9_isDigit_12 : decode cX9_isDigit 12 = .ok (.iconst 1, 1) := by decide +kernel
theorem dX9_isDigit_13 : decode cX9_isDigit 13 = .ok (.goto 4, 3) := by decide +kernel
theorem dX9_isDigit_16 : decode cX9_isDigit 16 = .ok (.iconst 0, 1) := by decide +kernel
theorem dX9_isDigit_17 : decode cX9_isDigit 17 = .ok (.ireturn, 1) := by decide +kernel
theorem dX0_init_0 : decode cX0_init 0 = .ok (.aload_n 0, 1) := by decide +kernel
theorem dX0_init_1 : decode cX0_init 1 = .ok (.invokespecial 3, 3) := by decide +kernel
theorem dX0_init_4 : decode cX0_init 4 = .ok (.aload_n 0, 1) := by decide +kernel
theorem dX0_init_5 : decode cX0_init 5 = .ok (.new 9, 3) := by decide +kernel
theorem dX0_init_8 : decode cX0_init 8 = .ok (.dup, 1) := by decide +kernel
theorem dX0_init_9 : decode cX0_init 9 = .ok (.bipush 12, 2) := by decide +kernel
theorem dX0_init_11 : decode cX0_init 11 = .ok (.invokespecial 11, 3) := by decide +kernel
theorem dX0_init_14 : decode cX0_init 14 = .ok (.putfield 14, 3) := by decide +kernel
theorem dX0_init_17 : decode cX0_init 17 = .ok (.return_, 1) := by decide +kernel
theorem dX0_lay_0 : decode cX0_lay 0 = .ok (.aload_n 0, 1) := by decide +kernel
theorem dX0_lay_1 : decode cX0_lay 1 = .ok (.iload_n 1, 1) := by decide +kernel
theorem dX0_lay_2 : decode cX0_lay 2 = .ok (.putfield 20, 3) := by decide +kernel
theorem dX0_lay_5 : decode cX0_lay 5 = .ok (.aload_n 0, 1) := by decide +kernel
theorem dX0_lay_6 : decode cX0_lay 6 = .ok (.iload_n 2, 1) := by decide +kernel
theorem dX0_lay_7 : decode cX0_lay 7 = .ok (.putfield 24, 3) := by decide +kernel
theorem dX0_lay_10 : decode cX0_lay 10 = .ok (.aload_n 0, 1) := by decide +kernel
theorem dX0_lay_11 : decode cX0_lay 11 = .ok (.iconst 0, 1) := by decide +kernel
theorem dX0_lay_12 : decode cX0_lay 12 = .ok (.putfield 27, 3) := by decide +kernel
theorem dX0_lay_15 : decode cX0_lay 15 = .ok (.aload_n 0, 1) := by decide +kernel
theorem dX0_lay_16 : decode cX0_lay 16 = .ok (.iconst 0, 1) := by decide +kernel
theorem dX0_lay_17 : decode cX0_lay 17 = .ok (.putfield 30, 3) := by decide +kernel
theorem dX0_lay_20 : decode cX0_lay 20 = .ok (.aload_n 0, 1) := by decide +kernel
theorem dX0_lay_21 : decode cX0_lay 21 = .ok (.getfield 14, 3) := by decide +kernel
theorem dX0_lay_24 : decode cX0_lay 24 = .ok (.bipush 12, 2) := by decide +kernel
theorem dX0_lay_26 : decode cX0_lay 26 = .ok (.invokevirtual 33, 3) := by decide +kernel
theorem dX0_lay_29 : decode cX0_lay 29 = .ok (.return_, 1) := by decide +kernel
theorem dX0_takeOver_0 : decode cX0_takeOver 0 = .ok (.aload_n 0, 1) := by decide +kernel
theorem dX0_takeOver_1 : decode cX0_takeOver 1 = .ok (.aload_n 1, 1) := by decide +kernel
theorem dX0_takeOver_2 : decode cX0_takeOver 2 = .ok (.getfield 20, 3) := by decide +kernel
theorem dX0_takeOver_5 : decode cX0_takeOver 5 = .ok (.putfield 20, 3) := by decide +kernel
theorem dX0_takeOver_8 : decode cX0_takeOver 8 = .ok (.aload_n 0, 1) := by decide +kernel
theorem dX0_takeOver_9 : decode cX0_takeOver 9 = .ok (.aload_n 1, 1) := by decide +kernel
theorem dX0_takeOver_10 : decode cX0_takeOver 10 = .ok (.getfield 24, 3) := by decide +kernel
theorem dX0_takeOver_13 : decode cX0_takeOver 13 = .ok (.putfield 24, 3) := by decide +kernel
theorem dX0_takeOver_16 : decode cX0_takeOver 16 = .ok (.aload_n 0, 1) := by decide +kernel
theorem dX0_takeOver_17 : decode cX0_takeOver 17 = .ok (.aload_n 1, 1) := by decide +kernel
theorem dX0_takeOver_18 : decode cX0_takeOver 18 = .ok (.getfield 27, 3) := by decide +kernel
theorem dX0_takeOver_21 : decode cX0_takeOver 21 = .ok (.putfield 27, 3) := by decide +kernel
theorem dX0_takeOver_24 : decode cX0_takeOver 24 = .ok (.aload_n 0, 1) := by decide +kernel
theorem dX0_takeOver_25 : decode cX0_takeOver 25 = .ok (.aload_n 1, 1) := by decide +kernel
theorem dX0_takeOver_26 : decode cX0_takeOver 26 = .ok (.getfield 30, 3) := by decide +kernel
theorem dX0_takeOver_29 : decode cX0_takeOver 29 = .ok (.putfield 30, 3) := by decide +kernel
theorem dX0_takeOver_32 : decode cX0_takeOver 32 = .ok (.iconst 0, 1) := by decide +kernel
theorem dX0_takeOver_33 : decode cX0_takeOver 33 = .ok (.istore_n 2, 1) := by decide +kernel
theorem dX0_takeOver_34 : decode cX0_takeOver 34 = .ok (.iload_n 2, 1) := by decide +kernel
theorem dX0_takeOver_35 : decode cX0_takeOver 35 = .ok (.bipush 12, 2) := by decide +kernel
theorem dX0_takeOver_37 : decode cX0_takeOver 37 = .ok (.if_icmp .ge 25, 3) := by decide +kernel
theorem dX0_takeOver_40 : decode cX0_takeOver 40 = .ok (.aload_n 0, 1) := by decide +kernel
theorem dX0_takeOver_41 : decode cX0_takeOver 41 = .ok (.getfield 14, 3) := by decide +kernel
theorem dX0_takeOver_44 : decode cX0_takeOver 44 = .ok (.iload_n 2, 1) := by decide +kernel
theorem dX0_takeOver_45 : decode cX0_takeOver 45 = .ok (.aload_n 1, 1) := by decide +kernel
theorem dX0_takeOver_46 : decode cX0_takeOver 46 = .ok (.getfield 14, 3) := by decide +kernel
theorem dX0_takeOver_49 : decode cX0_takeOver 49 = .ok (.iload_n 2, 1) := by decide +kernel
theorem dX0_takeOver_50 : decode cX0_takeOver 50 = .ok (.invokevirtual 36, 3) := by decide +kernel
theorem dX0_takeOver_53 : decode cX0_takeOver 53 = .ok (.invokevirtual 40, 3) := by decide +kernel
theorem dX0_takeOver_56 : decode cX0_takeOver 56 = .ok (.iinc 2 1, 3) := by decide +kernel
theorem dX0_takeOver_59 : decode cX0_takeOver 59 = .ok (.goto (-25), 3) := by decide +kernel
theorem dX0_takeOver_62 : decode cX0_takeOver 62 = .ok (.return_, 1) := by decide +kernel
theorem dX0_hasState_0 : decode cX0_hasState 0 = .ok (.iload_n 1, 1) := by decide +kernel
theorem dX0_hasState_1 : decode cX0_hasState 1 = .ok (.ifCond .lt 15, 3) := by decide +kernel
theorem dX0_hasState_4 : decode cX0_hasState 4 = .ok (.iload_n 1, 1) := by decide +kernel
theorem dX0_hasState_5 : decode cX0_hasState 5 = .ok (.aload_n 0, 1) := by decide +kernel
theorem dX0_hasState_6 : decode cX0_hasState 6 = .ok (.getfield 20, 3) := by decide +kernel
theorem dX0_hasState_9 : decode cX0_hasState 9 = .ok (.if_icmp .ge 7, 3) := by decide +kernel
theorem dX0_hasState_12 : decode cX0_hasState 12 = .ok (.iconst 1, 1) := by decide +kernel
theorem dX0_hasState_13 : decode cX0_hasState 13 = .ok (.goto 4, 3) := by decide +kernel
theorem dX0_hasState_16 : decode cX0_hasState 16 = .ok (.iconst 0, 1) := by decide +kernel
theorem dX0_hasState_17 : decode cX0_hasState 17 = .ok (.ireturn, 1) := by decide +kernel
theorem dX0_hasSign_0 : decode cX0_hasSign 0 = .ok (.iload_n 1, 1) := by decide +kernel
theorem dX0_hasSign_1 : decode cX0_hasSign 1 = .ok (.ifCond .lt 15, 3) := by decide +kernel
theorem dX0_hasSign_4 : decode cX0_hasSign 4 = .ok (.iload_n 1, 1) := by decide +kernel
theorem dX0_hasSign_5 : decode cX0_hasSign 5 = .ok (.aload_n 0, 1) := by decide +kernel
theorem dX0_hasSign_6 : decode cX0_hasSign 6 = .ok (.getfield 24, 3) := by decide +kernel
theorem dX0_hasSign_9 : decode cX0_hasSign 9 = .ok (.if_icmp .ge 7, 3) := by decide +kernel
theorem dX0_hasSign_12 : decode cX0_hasSign 12 = .ok (.iconst 1, 1) := by decide +kernel
theorem dX0_hasSign_13 : decode cX0_hasSign 13 = .ok (.goto 4, 3) := by decide +kernel
theorem dX0_hasSign_16 : decode cX0_hasSign 16 = .ok (.iconst 0, 1) := by decide +kernel
theorem dX0_hasSign_17 : decode cX0_hasSign 17 = .ok (.ireturn, 1) := by decide +kernel
theorem dX0_hasSet_0 : decode cX0_hasSet 0 = .ok (.iload_n 1, 1) := by decide +kernel
theorem dX0_hasSet_1 : decode cX0_hasSet 1 = .ok (.ifCond .lt 17, 3) := by decide +kernel
theorem dX0_hasSet_4 : decode cX0_hasSet 4 = .ok (.iload_n 1, 1) := by decide +kernel
theorem dX0_hasSet_5 : decode cX0_hasSet 5 = .ok (.iconst 1, 1) := by decide +kernel
theorem dX0_hasSet_6 : decode cX0_hasSet 6 = .ok (.aload_n 0, 1) := by decide +kernel
theorem dX0_hasSet_7 : decode cX0_hasSet 7 = .ok (.getfield 20, 3) := by decide +kernel
theorem dX0_hasSet_10 : decode cX0_hasSet 10 = .ok (.ishl, 1) := by decide +kernel
theorem dX0_hasSet_11 : decode cX0_hasSet 11 = .ok (.if_icmp .ge 7, 3) := by decide +kernel
theorem dX0_hasSet_14 : decode cX0_hasSet 14 = .ok (.iconst 1, 1) := by decide +kernel
theorem dX0_hasSet_15 : decode cX0_hasSet 15 = .ok (.goto 4, 3) := by decide +kernel
theorem dX0_hasSet_18 : decode cX0_hasSet 18 = .ok (.iconst 0, 1) := by decide +kernel
theorem dX0_hasSet_19 : decode cX0_hasSet 19 = .ok (.ireturn, 1) := by decide +kernel
theorem dX0_hasArrow_0 : decode cX0_hasArrow 0 = .ok (.aload_n 0, 1) := by decide +kernel
theorem dX0_hasArrow_1 : decode cX0_hasArrow 1 = .ok (.iload_n 1, 1) := by decide +kernel
theorem dX0_hasArrow_2 : decode cX0_hasArrow 2 = .ok (.invokevirtual 44, 3) := by decide +kernel
theorem dX0_hasArrow_5 : decode cX0_hasArrow 5 = .ok (.ifCond .eq 23, 3) := by decide +kernel
theorem dX0_hasArrow_8 : decode cX0_hasArrow 8 = .ok (.aload_n 0, 1) := by decide +kernel
theorem dX0_hasArrow_9 : decode cX0_hasArrow 9 = .ok (.iload_n 2, 1) := by decide +kernel
theorem dX0_hasArrow_10 : decode cX0_hasArrow 10 = .ok (.invokevirtual 48, 3) := by decide +kernel
theorem dX0_hasArrow_13 : decode cX0_hasArrow 13 = .ok (.ifCond .eq 15, 3) := by decide +kernel
theorem dX0_hasArrow_16 : decode cX0_hasArrow 16 = .ok (.aload_n 0, 1) := by decide +kernel
theorem dX0_hasArrow_17 : decode cX0_hasArrow 17 = .ok (.iload_n 3, 1) := by decide +kernel
theorem dX0_hasArrow_18 : decode cX0_hasArrow 18 = .ok (.invokevirtual 44, 3) := by decide +kernel
theorem dX0_hasArrow_21 : decode cX0_hasArrow 21 = .ok (.ifCond .eq 7, 3) := by decide +kernel
theorem dX0_hasArrow_24 : decode cX0_hasArrow 24 = .ok (.iconst 1, 1) := by decide +kernel
theorem dX0_hasArrow_25 : decode cX0_hasArrow 25 = .ok (.goto 4, 3) := by decide +kernel
theorem dX0_hasArrow_28 : decode cX0_hasArrow 28 = .ok (.iconst 0, 1) := by decide +kernel
theorem dX0_hasArrow_29 : decode cX0_hasArrow 29 = .ok (.ireturn, 1) := by decide +kernel
theorem dX0_joins_0 : decode cX0_joins 0 = .ok (.iload_n 3, 1) := by decide +kernel
theorem dX0_joins_1 : decode cX0_joins 1 = .ok (.aload_n 0, 1) := by decide +kernel
theorem dX0_joins_2 : decode cX0_joins 2 = .ok (.iload_n 1, 1) := by decide +kernel
theorem dX0_joins_3 : decode cX0_joins 3 = .ok (.iload_n 2, 1) := by decide +kernel
theorem dX0_joins_4 : decode cX0_joins 4 = .ok (.invokevirtual 51, 3) := by decide +kernel
theorem dX0_joins_7 : decode cX0_joins 7 = .ok (.invokestatic 55, 3) := by decide +kernel
theorem dX0_joins_10 : decode cX0_joins 10 = .ok (.ireturn, 1) := by decide +kernel
theorem dX0_setArrow_0 : decode cX0_setArrow 0 = .ok (.aload_n 0, 1) := by decide +kernel
theorem dX0_setArrow_1 : decode cX0_setArrow 1 = .ok (.iload_n 1, 1) := by decide +kernel
theorem dX0_setArrow_2 : decode cX0_setArrow 2 = .ok (.iload_n 2, 1) := by decide +kernel
theorem dX0_setArrow_3 : decode cX0_setArrow 3 = .ok (.invokevirtual 51, 3) := by decide +kernel
theorem dX0_setArrow_6 : decode cX0_setArrow 6 = .ok (.istore 5, 2) := by decide +kernel
theorem dX0_setArrow_8 : decode cX0_setArrow 8 = .ok (.aload_n 0, 1) := by decide +kernel
theorem dX0_setArrow_9 : decode cX0_setArrow 9 = .ok (.getfield 14, 3) := by decide +kernel
theorem dX0_setArrow_12 : decode cX0_setArrow 12 = .ok (.iload_n 2, 1) := by decide +kernel
theorem dX0_setArrow_13 : decode cX0_setArrow 13 = .ok (.iconst 4, 1) := by decide +kernel
theorem dX0_setArrow_14 : decode cX0_setArrow 14 = .ok (.imul, 1) := by decide +kernel
theorem dX0_setArrow_15 : decode cX0_setArrow 15 = .ok (.iload_n 1, 1) := by decide +kernel
theorem dX0_setArrow_16 : decode cX0_setArrow 16 = .ok (.iadd, 1) := by decide +kernel
theorem dX0_setArrow_17 : decode cX0_setArrow 17 = .ok (.iload 4, 2) := by decide +kernel
theorem dX0_setArrow_19 : decode cX0_setArrow 19 = .ok (.ifCond .eq 12, 3) := by decide +kernel
theorem dX0_setArrow_22 : decode cX0_setArrow 22 = .ok (.iload 5, 2) := by decide +kernel
theorem dX0_setArrow_24 : decode cX0_setArrow 24 = .ok (.iconst 1, 1) := by decide +kernel
theorem dX0_setArrow_25 : decode cX0_setArrow 25 = .ok (.iload_n 3, 1) := by decide +kernel
theorem dX0_setArrow_26 : decode cX0_setArrow 26 = .ok (.ishl, 1) := by decide +kernel
theorem dX0_setArrow_27 : decode cX0_setArrow 27 = .ok (.ior, 1) := by decide +kernel
theorem dX0_setArrow_28 : decode cX0_setArrow 28 = .ok (.goto 11, 3) := by decide +kernel
theorem dX0_setArrow_31 : decode cX0_setArrow 31 = .ok (.iload 5, 2) := by decide +kernel
theorem dX0_setArrow_33 : decode cX0_setArrow 33 = .ok (.iconst 1, 1) := by decide +kernel
theorem dX0_setArrow_34 : decode cX0_setArrow 34 = .ok (.iload_n 3, 1) := by decide +kernel
theorem dX0_setArrow_35 : decode cX0_setArrow 35 = .ok (.ishl, 1) := by decide +kernel
theorem dX0_setArrow_36 : decode cX0_setArrow 36 = .ok (.iconst (-1), 1) := by decide +kernel
theorem dX0_setArrow_37 : decode cX0_setArrow 37 = .ok (.ixor, 1) := by decide +kernel
theorem dX0_setArrow_38 : decode cX0_setArrow 38 = .ok (.iand, 1) := by decide +kernel
theorem dX0_setArrow_39 : decode cX0_setArrow 39 = .ok (.invokevirtual 40, 3) := by decide +kernel
theorem dX0_setArrow_42 : decode cX0_setArrow 42 = .ok (.return_, 1) := by decide +kernel
theorem dX0_arrowCount_0 : decode cX0_arrowCount 0 = .ok (.iconst 0, 1) := by decide +kernel
theorem dX0_arrowCount_1 : decode cX0_arrowCount 1 = .ok (.istore_n 1, 1) := by decide +kernel
theorem dX0_arrowCount_2 : decode cX0_arrowCount 2 = .ok (.iconst 0, 1) := by decide +kernel
theorem dX0_arrowCount_3 : decode cX0_arrowCount 3 = .ok (.istore_n 2, 1) := by decide +kernel
theorem dX0_arrowCount_4 : decode cX0_arrowCount 4 = .ok (.iload_n 2, 1) := by decide +kernel
theorem dX0_arrowCount_5 : decode cX0_arrowCount 5 = .ok (.bipush 12, 2) := by decide +kernel
theorem dX0_arrowCount_7 : decode cX0_arrowCount 7 = .ok (.if_icmp .ge 23, 3) := by decide +kernel
theorem dX0_arrowCount_10 : decode cX0_arrowCount 10 = .ok (.iload_n 1, 1) := by decide +kernel
theorem dX0_arrowCount_11 : decode cX0_arrowCount 11 = .ok (.aload_n 0, 1) := by decide +kernel
theorem dX0_arrowCount_12 : decode cX0_arrowCount 12 = .ok (.getfield 14, 3) := by decide +kernel
theorem dX0_arrowCount_15 : decode cX0_arrowCount 15 = .ok (.iload_n 2, 1) := by decide +kernel
theorem dX0_arrowCount_16 : decode cX0_arrowCount 16 = .ok (.invokevirtual 36, 3) := by decide +kernel
theorem dX0_arrowCount_19 : decode cX0_arrowCount 19 = .ok (.invokestatic 59, 3) := by decide +kernel
theorem dX0_arrowCount_22 : decode cX0_arrowCount 22 = .ok (.iadd, 1) := by decide +kernel
theorem dX0_arrowCount_23 : decode cX0_arrowCount 23 = .ok (.istore_n 1, 1) := by decide +kernel
theorem dX0_arrowCount_24 : decode cX0_arrowCount 24 = .ok (.iinc 2 1, 3) := by decide +kernel
theorem dX0_arrowCount_27 : decode cX0_arrowCount 27 = .ok (.goto (-23), 3) := by decide +kernel
theorem dX0_arrowCount_30 : decode cX0_arrowCount 30 = .ok (.iload_n 1, 1) := by decide +kernel
theorem dX0_arrowCount_31 : decode cX0_arrowCount 31 = .ok (.ireturn, 1) := by decide +kernel
theorem dX0_arrowsOf_0 : decode cX0_arrowsOf 0 = .ok (.aload_n 0, 1) := by decide +kernel
theorem dX0_arrowsOf_1 : decode cX0_arrowsOf 1 = .ok (.getfield 14, 3) := by decide +kernel
theorem dX0_arrowsOf_4 : decode cX0_arrowsOf 4 = .ok (.iload_n 2, 1) := by decide +kernel
theorem dX0_arrowsOf_5 : decode cX0_arrowsOf 5 = .ok (.iconst 4, 1) := by decide +kernel
theorem dX0_arrowsOf_6 : decode cX0_arrowsOf 6 = .ok (.imul, 1) := by decide +kernel
theorem dX0_arrowsOf_7 : decode cX0_arrowsOf 7 = .ok (.iload_n 1, 1) := by decide +kernel
theorem dX0_arrowsOf_8 : decode cX0_arrowsOf 8 = .ok (.iadd, 1) := by decide +kernel
theorem dX0_arrowsOf_9 : decode cX0_arrowsOf 9 = .ok (.invokevirtual 36, 3) := by decide +kernel
theorem dX0_arrowsOf_12 : decode cX0_arrowsOf 12 = .ok (.ireturn, 1) := by decide +kernel
theorem dX0_reach_0 : decode cX0_reach 0 = .ok (.iconst 0, 1) := by decide +kernel
theorem dX0_reach_1 : decode cX0_reach 1 = .ok (.istore_n 3, 1) := by decide +kernel
theorem dX0_reach_2 : decode cX0_reach 2 = .ok (.iconst 0, 1) := by decide +kernel
theorem dX0_reach_3 : decode cX0_reach 3 = .ok (.istore 4, 2) := by decide +kernel
theorem dX0_reach_5 : decode cX0_reach 5 = .ok (.iload 4, 2) := by decide +kernel
theorem dX0_reach_7 : decode cX0_reach 7 = .ok (.aload_n 0, 1) := by decide +kernel
theorem dX0_reach_8 : decode cX0_reach 8 = .ok (.getfield 20, 3) := by decide +kernel
theorem dX0_reach_11 : decode cX0_reach 11 = .ok (.if_icmp .ge 28, 3) := by decide +kernel
theorem dX0_reach_14 : decode cX0_reach 14 = .ok (.iload 4, 2) := by decide +kernel
theorem dX0_reach_16 : decode cX0_reach 16 = .ok (.iload_n 1, 1) := by decide +kernel
theorem dX0_reach_17 : decode cX0_reach 17 = .ok (.invokestatic 55, 3) := by decide +kernel
theorem dX0_reach_20 : decode cX0_reach 20 = .ok (.ifCond .eq 13, 3) := by decide +kernel
theorem dX0_reach_23 : decode cX0_reach 23 = .ok (.iload_n 3, 1) := by decide +kernel
theorem dX0_reach_24 : decode cX0_reach 24 = .ok (.aload_n 0, 1) := by decide +kernel
theorem dX0_reach_25 : decode cX0_reach 25 = .ok (.iload 4, 2) := by decide +kernel
theorem dX0_reach_27 : decode cX0_reach 27 = .ok (.iload_n 2, 1) := by decide +kernel
theorem dX0_reach_28 : decode cX0_reach 28 = .ok (.invokevirtual 51, 3) := by decide +kernel
theorem dX0_reach_31 : decode cX0_reach 31 = .ok (.ior, 1) := by decide +kernel
theorem dX0_reach_32 : decode cX0_reach 32 = .ok (.istore_n 3, 1) := by decide +kernel
theorem dX0_reach_33 : decode cX0_reach 33 = .ok (.iinc 4 1, 3) := by decide +kernel
theorem dX0_reach_36 : decode cX0_reach 36 = .ok (.goto (-31), 3) := by decide +kernel
theorem dX0_reach_39 : decode cX0_reach 39 = .ok (.iload_n 3, 1) := by decide +kernel
theorem dX0_reach_40 : decode cX0_reach 40 = .ok (.ireturn, 1) := by decide +kernel
theorem dX0_reachAlong_0 : decode cX0_reachAlong 0 = .ok (.iload_n 1, 1) := by decide +kernel
theorem dX0_reachAlong_1 : decode cX0_reachAlong 1 = .ok (.istore_n 3, 1) := by decide +kernel
theorem dX0_reachAlong_2 : decode cX0_reachAlong 2 = .ok (.iconst 0, 1) := by decide +kernel
theorem dX0_reachAlong_3 : decode cX0_reachAlong 3 = .ok (.istore 4, 2) := by decide +kernel
theorem dX0_reachAlong_5 : decode cX0_reachAlong 5 = .ok (.iload 4, 2) := by decide +kernel
theorem dX0_reachAlong_7 : decode cX0_reachAlong 7 = .ok (.aload_n 2, 1) := by decide +kernel
theorem dX0_reachAlong_8 : decode cX0_reachAlong 8 = .ok (.getfield 64, 3) := by decide +kernel
theorem dX0_reachAlong_11 : decode cX0_reachAlong 11 = .ok (.if_icmp .ge 21, 3) := by decide +kernel
theorem dX0_reachAlong_14 : decode cX0_reachAlong 14 = .ok (.aload_n 0, 1) := by decide +kernel
theorem dX0_reachAlong_15 : decode cX0_reachAlong 15 = .ok (.iload_n 3, 1) := by decide +kernel
theorem dX0_reachAlong_16 : decode cX0_reachAlong 16 = .ok (.aload_n 2, 1) := by decide +kernel
theorem dX0_reachAlong_17 : decode cX0_reachAlong 17 = .ok (.iload 4, 2) := by decide +kernel
theorem dX0_reachAlong_19 : decode cX0_reachAlong 19 = .ok (.invokevirtual 36, 3) := by decide +kernel
theorem dX0_reachAlong_22 : decode cX0_reachAlong 22 = .ok (.invokevirtual 67, 3) := by decide +kernel
theorem dX0_reachAlong_25 : decode cX0_reachAlong 25 = .ok (.istore_n 3, 1) := by decide +kernel
theorem dX0_reachAlong_26 : decode cX0_reachAlong 26 = .ok (.iinc 4 1, 3) := by decide +kernel
theorem dX0_reachAlong_29 : decode cX0_reachAlong 29 = .ok (.goto (-24), 3) := by decide +kernel
theorem dX0_reachAlong_32 : decode cX0_reachAlong 32 = .ok (.iload_n 3, 1) := by decide +kernel
theorem dX0_reachAlong_33 : decode cX0_reachAlong 33 = .ok (.ireturn, 1) := by decide +kernel
theorem dX0_vertices_0 : decode cX0_vertices 0 = .ok (.aload_n 0, 1) := by decide +kernel
theorem dX0_vertices_1 : decode cX0_vertices 1 = .ok (.getfield 20, 3) := by decide +kernel
theorem dX0_vertices_4 : decode cX0_vertices 4 = .ok (.ireturn, 1) := by decide +kernel
theorem dX0_letterCount_0 : decode cX0_letterCount 0 = .ok (.aload_n 0, 1) := by decide +kernel
theorem dX0_letterCount_1 : decode cX0_letterCount 1 = .ok (.getfield 24, 3) := by decide +kernel
theorem dX0_letterCount_4 : decode cX0_letterCount 4 = .ok (.ireturn, 1) := by decide +kernel
theorem dX0_isFirst_0 : decode cX0_isFirst 0 = .ok (.iload_n 1, 1) := by decide +kernel
theorem dX0_isFirst_1 : decode cX0_isFirst 1 = .ok (.aload_n 0, 1) := by decide +kernel
theorem dX0_isFirst_2 : decode cX0_isFirst 2 = .ok (.getfield 27, 3) := by decide +kernel
theorem dX0_isFirst_5 : decode cX0_isFirst 5 = .ok (.invokestatic 55, 3) := by decide +kernel
theorem dX0_isFirst_8 : decode cX0_isFirst 8 = .ok (.ireturn, 1) := by decide +kernel
theorem dX0_isMarked_0 : decode cX0_isMarked 0 = .ok (.iload_n 1, 1) := by decide +kernel
theorem dX0_isMarked_1 : decode cX0_isMarked 1 = .ok (.aload_n 0, 1) := by decide +kernel
theorem dX0_isMarked_2 : decode cX0_isMarked 2 = .ok (.getfield 30, 3) := by decide +kernel
theorem dX0_isMarked_5 : decode cX0_isMarked 5 = .ok (.invokestatic 55, 3) := by decide +kernel
theorem dX0_isMarked_8 : decode cX0_isMarked 8 = .ok (.ireturn, 1) := by decide +kernel
theorem dX0_fan_0 : decode cX0_fan 0 = .ok (.aload_n 0, 1) := by decide +kernel
theorem dX0_fan_1 : decode cX0_fan 1 = .ok (.iload_n 1, 1) := by decide +kernel
theorem dX0_fan_2 : decode cX0_fan 2 = .ok (.iload_n 2, 1) := by decide +kernel
theorem dX0_fan_3 : decode cX0_fan 3 = .ok (.invokevirtual 51, 3) := by decide +kernel
theorem dX0_fan_6 : decode cX0_fan 6 = .ok (.invokestatic 59, 3) := by decide +kernel
theorem dX0_fan_9 : decode cX0_fan 9 = .ok (.ireturn, 1) := by decide +kernel
theorem dX0_goal_0 : decode cX0_goal 0 = .ok (.aload_n 0, 1) := by decide +kernel
theorem dX0_goal_1 : decode cX0_goal 1 = .ok (.getfield 14, 3) := by decide +kernel
theorem dX0_goal_4 : decode cX0_goal 4 = .ok (.iload_n 2, 1) := by decide +kernel
theorem dX0_goal_5 : decode cX0_goal 5 = .ok (.iconst 4, 1) := by decide +kernel
theorem dX0_goal_6 : decode cX0_goal 6 = .ok (.imul, 1) := by decide +kernel
theorem dX0_goal_7 : decode cX0_goal 7 = .ok (.iload_n 1, 1) := by decide +kernel
theorem dX0_goal_8 : decode cX0_goal 8 = .ok (.iadd, 1) := by decide +kernel
theorem dX0_goal_9 : decode cX0_goal 9 = .ok (.invokevirtual 36, 3) := by decide +kernel
theorem dX0_goal_12 : decode cX0_goal 12 = .ok (.istore 4, 2) := by decide +kernel
theorem dX0_goal_14 : decode cX0_goal 14 = .ok (.iconst 0, 1) := by decide +kernel
theorem dX0_goal_15 : decode cX0_goal 15 = .ok (.istore 5, 2) := by decide +kernel
theorem dX0_goal_17 : decode cX0_goal 17 = .ok (.iconst 0, 1) := by decide +kernel
theorem dX0_goal_18 : decode cX0_goal 18 = .ok (.istore 6, 2) := by decide +kernel
theorem dX0_goal_20 : decode cX0_goal 20 = .ok (.iload 6, 2) := by decide +kernel
theorem dX0_goal_22 : decode cX0_goal 22 = .ok (.aload_n 0, 1) := by decide +kernel
theorem dX0_goal_23 : decode cX0_goal 23 = .ok (.getfield 20, 3) := by decide +kernel
theorem dX0_goal_26 : decode cX0_goal 26 = .ok (.if_icmp .ge 31, 3) := by decide +kernel
theorem dX0_goal_29 : decode cX0_goal 29 = .ok (.iload 6, 2) := by decide +kernel
theorem dX0_goal_31 : decode cX0_goal 31 = .ok (.iload 4, 2) := by decide +kernel
theorem dX0_goal_33 : decode cX0_goal 33 = .ok (.invokestatic 55, 3) := by decide +kernel
theorem dX0_goal_36 : decode cX0_goal 36 = .ok (.ifCond .eq 15, 3) := by decide +kernel
theorem dX0_goal_39 : decode cX0_goal 39 = .ok (.iload 5, 2) := by decide +kernel
theorem dX0_goal_41 : decode cX0_goal 41 = .ok (.iload_n 3, 1) := by decide +kernel
theorem dX0_goal_42 : decode cX0_goal 42 = .ok (.if_icmp .ne 6, 3) := by decide +kernel
theorem dX0_goal_45 : decode cX0_goal 45 = .ok (.iload 6, 2) := by decide +kernel
theorem dX0_goal_47 : decode cX0_goal 47 = .ok (.ireturn, 1) := by decide +kernel
theorem dX0_goal_48 : decode cX0_goal 48 = .ok (.iinc 5 1, 3) := by decide +kernel
theorem dX0_goal_51 : decode cX0_goal 51 = .ok (.iinc 6 1, 3) := by decide +kernel
theorem dX0_goal_54 : decode cX0_goal 54 = .ok (.goto (-34), 3) := by decide +kernel
theorem dX0_goal_57 : decode cX0_goal 57 = .ok (.iconst (-1), 1) := by decide +kernel
theorem dX0_goal_58 : decode cX0_goal 58 = .ok (.ireturn, 1) := by decide +kernel
theorem dX4_init_0 : decode cX4_init 0 = .ok (.aload_n 0, 1) := by decide +kernel
theorem dX4_init_1 : decode cX4_init 1 = .ok (.invokespecial 3, 3) := by decide +kernel
theorem dX4_init_4 : decode cX4_init 4 = .ok (.aload_n 0, 1) := by decide +kernel
theorem dX4_init_5 : decode cX4_init 5 = .ok (.new 9, 3) := by decide +kernel
theorem dX4_init_8 : decode cX4_init 8 = .ok (.dup, 1) := by decide +kernel
theorem dX4_init_9 : decode cX4_init 9 = .ok (.sipush 128, 3) := by decide +kernel
theorem dX4_init_12 : decode cX4_init 12 = .ok (.invokespecial 13, 3) := by decide +kernel
theorem dX4_init_15 : decode cX4_init 15 = .ok (.putfield 16, 3) := by decide +kernel
theorem dX4_init_18 : decode cX4_init 18 = .ok (.return_, 1) := by decide +kernel
theorem dX4_rankOf_0 : decode cX4_rankOf 0 = .ok (.iload_n 0, 1) := by decide +kernel
theorem dX4_rankOf_1 : decode cX4_rankOf 1 = .ok (.iconst 3, 1) := by decide +kernel
theorem dX4_rankOf_2 : decode cX4_rankOf 2 = .ok (.iload_n 1, 1) := by decide +kernel
theorem dX4_rankOf_3 : decode cX4_rankOf 3 = .ok (.imul, 1) := by decide +kernel
theorem dX4_rankOf_4 : decode cX4_rankOf 4 = .ok (.ishr, 1) := by decide +kernel
theorem dX4_rankOf_5 : decode cX4_rankOf 5 = .ok (.bipush 7, 2) := by decide +kernel
theorem dX4_rankOf_7 : decode cX4_rankOf 7 = .ok (.iand, 1) := by decide +kernel
theorem dX4_rankOf_8 : decode cX4_rankOf 8 = .ok (.ireturn, 1) := by decide +kernel
theorem dX4_withRank_0 : decode cX4_withRank 0 = .ok (.iload_n 0, 1) := by decide +kernel
theorem dX4_withRank_1 : decode cX4_withRank 1 = .ok (.iload_n 2, 1) := by decide +kernel
theorem dX4_withRank_2 : decode cX4_withRank 2 = .ok (.iconst 3, 1) := by decide +kernel
theorem dX4_withRank_3 : decode cX4_withRank 3 = .ok (.iload_n 1, 1) := by decide +kernel
theorem dX4_withRank_4 : decode cX4_withRank 4 = .ok (.imul, 1) := by decide +kernel
theorem dX4_withRank_5 : decode cX4_withRank 5 = .ok (.ishl, 1) := by decide +kernel
theorem dX4_withRank_6 : decode cX4_withRank 6 = .ok (.ior, 1) := by decide +kernel
theorem dX4_withRank_7 : decode cX4_withRank 7 = .ok (.ireturn, 1) := by decide +kernel
theorem dX4_greatestOf_0 : decode cX4_greatestOf 0 = .ok (.iconst 0, 1) := by decide +kernel
theorem dX4_greatestOf_1 : decode cX4_greatestOf 1 = .ok (.istore_n 1, 1) := by decide +kernel
theorem dX4_greatestOf_2 : decode cX4_greatestOf 2 = .ok (.iconst 0, 1) := by decide +kernel
theorem dX4_greatestOf_3 : decode cX4_greatestOf 3 = .ok (.istore_n 2, 1) := by decide +kernel
theorem dX4_greatestOf_4 : decode cX4_greatestOf 4 = .ok (.iload_n 2, 1) := by decide +kernel
theorem dX4_greatestOf_5 : decode cX4_greatestOf 5 = .ok (.iconst 4, 1) := by decide +kernel
theorem dX4_greatestOf_6 : decode cX4_greatestOf 6 = .ok (.if_icmp .ge 19, 3) := by decide +kernel
theorem dX4_greatestOf_9 : decode cX4_greatestOf 9 = .ok (.iload_n 1, 1) := by decide +kernel
theorem dX4_greatestOf_10 : decode cX4_greatestOf 10 = .ok (.iload_n 0, 1) := by decide +kernel
theorem dX4_greatestOf_11 : decode cX4_greatestOf 11 = .ok (.iload_n 2, 1) := by decide +kernel
theorem dX4_greatestOf_12 : decode cX4_greatestOf 12 = .ok (.invokestatic 20, 3) := by decide +kernel
theorem dX4_greatestOf_15 : decode cX4_greatestOf 15 = .ok (.invokestatic 24, 3) := by decide +kernel
theorem dX4_greatestOf_18 : decode cX4_greatestOf 18 = .ok (.istore_n 1, 1) := by decide +kernel
theorem dX4_greatestOf_19 : decode cX4_greatestOf 19 = .ok (.iinc 2 1, 3) := by decide +kernel
theorem dX4_greatestOf_22 : decode cX4_greatestOf 22 = .ok (.goto (-18), 3) := by decide +kernel
theorem dX4_greatestOf_25 : decode cX4_greatestOf 25 = .ok (.iload_n 1, 1) := by decide +kernel
theorem dX4_greatestOf_26 : decode cX4_greatestOf 26 = .ok (.ireturn, 1) := by decide +kernel
theorem dX4_greatestTight_0 : decode cX4_greatestTight 0 = .ok (.iconst 2, 1) := by decide +kernel
theorem dX4_greatestTight_1 : decode cX4_greatestTight 1 = .ok (.iload_n 0, 1) := by decide +kernel
theorem dX4_greatestTight_2 : decode cX4_greatestTight 2 = .ok (.iload_n 1, 1) := by decide +kernel
theorem dX4_greatestTight_3 : decode cX4_greatestTight 3 = .ok (.iconst (-1), 1) := by decide +kernel
theorem dX4_greatestTight_4 : decode cX4_greatestTight 4 = .ok (.ixor, 1) := by decide +kernel
theorem dX4_greatestTight_5 : decode cX4_greatestTight 5 = .ok (.iand, 1) := by decide +kernel
theorem dX4_greatestTight_6 : decode cX4_greatestTight 6 = .ok (.invokestatic 29, 3) := by decide +kernel
theorem dX4_greatestTight_9 : decode cX4_greatestTight 9 = .ok (.imul, 1) := by decide +kernel
theorem dX4_greatestTight_10 : decode cX4_greatestTight 10 = .ok (.iconst 1, 1) := by decide +kernel
theorem dX4_greatestTight_11 : decode cX4_greatestTight 11 = .ok (.isub, 1) := by decide +kernel
theorem dX4_greatestTight_12 : decode cX4_greatestTight 12 = .ok (.ireturn, 1) := by decide +kernel
theorem dX4_level_0 : decode cX4_level 0 = .ok (.iconst 0, 1) := by decide +kernel
theorem dX4_level_1 : decode cX4_level 1 = .ok (.istore_n 1, 1) := by decide +kernel
theorem dX4_level_2 : decode cX4_level 2 = .ok (.iconst 0, 1) := by decide +kernel
theorem dX4_level_3 : decode cX4_level 3 = .ok (.istore_n 2, 1) := by decide +kernel
theorem dX4_level_4 : decode cX4_level 4 = .ok (.iload_n 2, 1) := by decide +kernel
theorem dX4_level_5 : decode cX4_level 5 = .ok (.iconst 4, 1) := by decide +kernel
theorem dX4_level_6 : decode cX4_level 6 = .ok (.if_icmp .ge 16, 3) := by decide +kernel
theorem dX4_level_9 : decode cX4_level 9 = .ok (.iload_n 1, 1) := by decide +kernel
theorem dX4_level_10 : decode cX4_level 10 = .ok (.iload_n 2, 1) := by decide +kernel
theorem dX4_level_11 : decode cX4_level 11 = .ok (.iload_n 0, 1) := by decide +kernel
theorem dX4_level_12 : decode cX4_level 12 = .ok (.invokestatic 35, 3) := by decide +kernel
theorem dX4_level_15 : decode cX4_level 15 = .ok (.istore_n 1, 1) := by decide +kernel
theorem dX4_level_16 : decode cX4_level 16 = .ok (.iinc 2 1, 3) := by decide +kernel
theorem dX4_level_19 : decode cX4_level 19 = .ok (.goto (-15), 3) := by decide +kernel
theorem dX4_level_22 : decode cX4_level 22 = .ok (.iload_n 1, 1) := by decide +kernel
theorem dX4_level_23 : decode cX4_level 23 = .ok (.ireturn, 1) := by decide +kernel
theorem dX4_findUnder_0 : decode cX4_findUnder 0 = .ok (.aload_n 0, 1) := by decide +kernel
theorem dX4_findUnder_1 : decode cX4_findUnder 1 = .ok (.iconst 0, 1) := by decide +kernel
theorem dX4_findUnder_2 : decode cX4_findUnder 2 = .ok (.putfield 39, 3) := by decide +kernel
theorem dX4_findUnder_5 : decode cX4_findUnder 5 = .ok (.aload_n 0, 1) := by decide +kernel
theorem dX4_findUnder_6 : decode cX4_findUnder 6 = .ok (.iload_n 1, 1) := by decide +kernel
theorem dX4_findUnder_7 : decode cX4_findUnder 7 = .ok (.putfield 43, 3) := by decide +kernel
theorem dX4_findUnder_10 : decode cX4_findUnder 10 = .ok (.aload_n 0, 1) := by decide +kernel
theorem dX4_findUnder_11 : decode cX4_findUnder 11 = .ok (.iload_n 2, 1) := by decide +kernel
theorem dX4_findUnder_12 : decode cX4_findUnder 12 = .ok (.putfield 46, 3) := by decide +kernel
theorem dX4_findUnder_15 : decode cX4_findUnder 15 = .ok (.aload_n 0, 1) := by decide +kernel
theorem dX4_findUnder_16 : decode cX4_findUnder 16 = .ok (.iload 4, 2) := by decide +kernel
theorem dX4_findUnder_18 : decode cX4_findUnder 18 = .ok (.putfield 49, 3) := by decide +kernel
theorem dX4_findUnder_21 : decode cX4_findUnder 21 = .ok (.aload_n 0, 1) := by decide +kernel
theorem dX4_findUnder_22 : decode cX4_findUnder 22 = .ok (.iconst 0, 1) := by decide +kernel
theorem dX4_findUnder_23 : decode cX4_findUnder 23 = .ok (.iconst 0, 1) := by decide +kernel
theorem dX4_findUnder_24 : decode cX4_findUnder 24 = .ok (.sipush 170, 3) := by decide +kernel
theorem dX4_findUnder_27 : decode cX4_findUnder 27 = .ok (.iconst 1, 1) := by decide +kernel
theorem dX4_findUnder_28 : decode cX4_findUnder 28 = .ok (.iload_n 3, 1) := by decide +kernel
theorem dX4_findUnder_29 : decode cX4_findUnder 29 = .ok (.iconst 1, 1) := by decide +kernel
theorem dX4_findUnder_30 : decode cX4_findUnder 30 = .ok (.iadd, 1) := by decide +kernel
theorem dX4_findUnder_31 : decode cX4_findUnder 31 = .ok (.ishl, 1) := by decide +kernel
theorem dX4_findUnder_32 : decode cX4_findUnder 32 = .ok (.iconst 1, 1) := by decide +kernel
theorem dX4_findUnder_33 : decode cX4_findUnder 33 = .ok (.isub, 1) := by decide +kernel
theorem dX4_findUnder_34 : decode cX4_findUnder 34 = .ok (.iand, 1) := by decide +kernel
theorem dX4_findUnder_35 : decode cX4_findUnder 35 = .ok (.invokevirtual 52, 3) := by decide +kernel
theorem dX4_findUnder_38 : decode cX4_findUnder 38 = .ok (.return_, 1) := by decide +kernel
theorem dX4_foundAt_0 : decode cX4_foundAt 0 = .ok (.aload_n 0, 1) := by decide +kernel
theorem dX4_foundAt_1 : decode cX4_foundAt 1 = .ok (.getfield 16, 3) := by decide +kernel
theorem dX4_foundAt_4 : decode cX4_foundAt 4 = .ok (.iload_n 1, 1) := by decide +kernel
theorem dX4_foundAt_5 : decode cX4_foundAt 5 = .ok (.invokevirtual 56, 3) := by decide +kernel
theorem dX4_foundAt_8 : decode cX4_foundAt 8 = .ok (.ireturn, 1) := by decide +kernel
theorem dX4_rankFrom_0 : decode cX4_rankFrom 0 = .ok (.aload_n 0, 1) := by decide +kernel
theorem dX4_rankFrom_1 : decode cX4_rankFrom 1 = .ok (.getfield 43, 3) := by decide +kernel
theorem dX4_rankFrom_4 : decode cX4_rankFrom 4 = .ok (.iload_n 1, 1) := by decide +kernel
theorem dX4_rankFrom_5 : decode cX4_rankFrom 5 = .ok (.ishr, 1) := by decide +kernel
theorem dX4_rankFrom_6 : decode cX4_rankFrom 6 = .ok (.iload_n 1, 1) := by decide +kernel
theorem dX4_rankFrom_7 : decode cX4_rankFrom 7 = .ok (.ishl, 1) := by decide +kernel
theorem dX4_rankFrom_8 : decode cX4_rankFrom 8 = .ok (.istore 4, 2) := by decide +kernel
theorem dX4_rankFrom_10 : decode cX4_rankFrom 10 = .ok (.iload_n 3, 1) := by decide +kernel
theorem dX4_rankFrom_11 : decode cX4_rankFrom 11 = .ok (.invokestatic 29, 3) := by decide +kernel
theorem dX4_rankFrom_14 : decode cX4_rankFrom 14 = .ok (.iload 4, 2) := by decide +kernel
theorem dX4_rankFrom_16 : decode cX4_rankFrom 16 = .ok (.aload_n 0, 1) := by decide +kernel
theorem dX4_rankFrom_17 : decode cX4_rankFrom 17 = .ok (.getfield 46, 3) := by decide +kernel
theorem dX4_rankFrom_20 : decode cX4_rankFrom 20 = .ok (.iconst (-1), 1) := by decide +kernel
theorem dX4_rankFrom_21 : decode cX4_rankFrom 21 = .ok (.ixor, 1) := by decide +kernel
theorem dX4_rankFrom_22 : decode cX4_rankFrom 22 = .ok (.iand, 1) := by decide +kernel
theorem dX4_rankFrom_23 : decode cX4_rankFrom 23 = .ok (.invokestatic 29, 3) := by decide +kernel
theorem dX4_rankFrom_26 : decode cX4_rankFrom 26 = .ok (.if_icmp .le 4, 3) := by decide +kernel
theorem dX4_rankFrom_29 : decode cX4_rankFrom 29 = .ok (.return_, 1) := by decide +kernel
theorem dX4_rankFrom_30 : decode cX4_rankFrom 30 = .ok (.iload_n 1, 1) := by decide +kernel
theorem dX4_rankFrom_31 : decode cX4_rankFrom 31 = .ok (.iconst 4, 1) := by decide +kernel
theorem dX4_rankFrom_32 : decode cX4_rankFrom 32 = .ok (.if_icmp .lt 28, 3) := by decide +kernel
theorem dX4_rankFrom_35 : decode cX4_rankFrom 35 = .ok (.aload_n 0, 1) := by decide +kernel
theorem dX4_rankFrom_36 : decode cX4_rankFrom 36 = .ok (.getfield 16, 3) := by decide +kernel
theorem dX4_rankFrom_39 : decode cX4_rankFrom 39 = .ok (.aload_n 0, 1) := by decide +kernel
theorem dX4_rankFrom_40 : decode cX4_rankFrom 40 = .ok (.getfield 39, 3) := by decide +kernel
theorem dX4_rankFrom_43 : decode cX4_rankFrom 43 = .ok (.iload_n 2, 1) := by decide +kernel
theorem dX4_rankFrom_44 : decode cX4_rankFrom 44 = .ok (.invokevirtual 59, 3) := by decide +kernel
theorem dX4_rankFrom_47 : decode cX4_rankFrom 47 = .ok (.aload_n 0, 1) := by decide +kernel
theorem dX4_rankFrom_48 : decode cX4_rankFrom 48 = .ok (.dup, 1) := by decide +kernel
theorem dX4_rankFrom_49 : decode cX4_rankFrom 49 = .ok (.getfield 39, 3) := by decide +kernel
theorem dX4_rankFrom_52 : decode cX4_rankFrom 52 = .ok (.iconst 1, 1) := by decide +kernel
theorem dX4_rankFrom_53 : decode cX4_rankFrom 53 = .ok (.iadd, 1) := by decide +kernel
theorem dX4_rankFrom_54 : decode cX4_rankFrom 54 = .ok (.putfield 39, 3) := by decide +kernel
theorem dX4_rankFrom_57 : decode cX4_rankFrom 57 = .ok (.goto 96, 3) := by decide +kernel
theorem dX4_rankFrom_60 : decode cX4_rankFrom 60 = .ok (.iload_n 1, 1) := by decide +kernel
theorem dX4_rankFrom_61 : decode cX4_rankFrom 61 = .ok (.aload_n 0, 1) := by decide +kernel
theorem dX4_rankFrom_62 : decode cX4_rankFrom 62 = .ok (.getfield 43, 3) := by decide +kernel
theorem dX4_rankFrom_65 : decode cX4_rankFrom 65 = .ok (.invokestatic 63, 3) := by decide +kernel
theorem dX4_rankFrom_68 : decode cX4_rankFrom 68 = .ok (.ifCond .ne 15, 3) := by decide +kernel
theorem dX4_rankFrom_71 : decode cX4_rankFrom 71 = .ok (.aload_n 0, 1) := by decide +kernel
theorem dX4_rankFrom_72 : decode cX4_rankFrom 72 = .ok (.iload_n 1, 1) := by decide +kernel
theorem dX4_rankFrom_73 : decode cX4_rankFrom 73 = .ok (.iconst 1, 1) := by decide +kernel
theorem dX4_rankFrom_74 : decode cX4_rankFrom 74 = .ok (.iadd, 1) := by decide +kernel
theorem dX4_rankFrom_75 : decode cX4_rankFrom 75 = .ok (.iload_n 2, 1) := by decide +kernel
theorem dX4_rankFrom_76 : decode cX4_rankFrom 76 = .ok (.iload_n 3, 1) := by decide +kernel
theorem dX4_rankFrom_77 : decode cX4_rankFrom 77 = .ok (.invokevirtual 52, 3) := by decide +kernel
theorem dX4_rankFrom_80 : decode cX4_rankFrom 80 = .ok (.goto 73, 3) := by decide +kernel
theorem dX4_rankFrom_83 : decode cX4_rankFrom 83 = .ok (.iload_n 1, 1) := by decide +kernel
theorem dX4_rankFrom_84 : decode cX4_rankFrom 84 = .ok (.aload_n 0, 1) := by decide +kernel
theorem dX4_rankFrom_85 : decode cX4_rankFrom 85 = .ok (.getfield 46, 3) := by decide +kernel
theorem dX4_rankFrom_88 : decode cX4_rankFrom 88 = .ok (.invokestatic 63, 3) := by decide +kernel
theorem dX4_rankFrom_91 : decode cX4_rankFrom 91 = .ok (.ifCond .eq 7, 3) := by decide +kernel
theorem dX4_rankFrom_94 : decode cX4_rankFrom 94 = .ok (.iconst 2, 1) := by decide +kernel
theorem dX4_rankFrom_95 : decode cX4_rankFrom 95 = .ok (.goto 4, 3) := by decide +kernel
theorem dX4_rankFrom_98 : decode cX4_rankFrom 98 = .ok (.iconst 1, 1) := by decide +kernel
theorem dX4_rankFrom_99 : decode cX4_rankFrom 99 = .ok (.istore 5, 2) := by decide +kernel
theorem dX4_rankFrom_101 : decode cX4_rankFrom 101 = .ok (.aload_n 0, 1) := by decide +kernel
theorem dX4_rankFrom_102 : decode cX4_rankFrom 102 = .ok (.getfield 49, 3) := by decide +kernel
theorem dX4_rankFrom_105 : decode cX4_rankFrom 105 = .ok (.iload_n 1, 1) := by decide +kernel
theorem dX4_rankFrom_106 : decode cX4_rankFrom 106 = .ok (.invokestatic 20, 3) := by decide +kernel
theorem dX4_rankFrom_109 : decode cX4_rankFrom 109 = .ok (.istore 6, 2) := by decide +kernel
theorem dX4_rankFrom_111 : decode cX4_rankFrom 111 = .ok (.iconst 0, 1) := by decide +kernel
theorem dX4_rankFrom_112 : decode cX4_rankFrom 112 = .ok (.istore 7, 2) := by decide +kernel
theorem dX4_rankFrom_114 : decode cX4_rankFrom 114 = .ok (.iload 7, 2) := by decide +kernel
theorem dX4_rankFrom_116 : decode cX4_rankFrom 116 = .ok (.iload 6, 2) := by decide +kernel
theorem dX4_rankFrom_118 : decode cX4_rankFrom 118 = .ok (.if_icmp .gt 35, 3) := by decide +kernel
theorem dX4_rankFrom_121 : decode cX4_rankFrom 121 = .ok (.aload_n 0, 1) := by decide +kernel
theorem dX4_rankFrom_122 : decode cX4_rankFrom 122 = .ok (.iload_n 1, 1) := by decide +kernel
theorem dX4_rankFrom_123 : decode cX4_rankFrom 123 = .ok (.iconst 1, 1) := by decide +kernel
theorem dX4_rankFrom_124 : decode cX4_rankFrom 124 = .ok (.iadd, 1) := by decide +kernel
theorem dX4_rankFrom_125 : decode cX4_rankFrom 125 = .ok (.iload_n 2, 1) := by decide +kernel
theorem dX4_rankFrom_126 : decode cX4_rankFrom 126 = .ok (.iload_n 1, 1) := by decide +kernel
theorem dX4_rankFrom_127 : decode cX4_rankFrom 127 = .ok (.iload 7, 2) := by decide +kernel
theorem dX4_rankFrom_129 : decode cX4_rankFrom 129 = .ok (.invokestatic 35, 3) := by decide +kernel
theorem dX4_rankFrom_132 : decode cX4_rankFrom 132 = .ok (.iload_n 3, 1) := by decide +kernel
theorem dX4_rankFrom_133 : decode cX4_rankFrom 133 = .ok (.iconst 1, 1) := by decide +kernel
theorem dX4_rankFrom_134 : decode cX4_rankFrom 134 = .ok (.iload 7, 2) := by decide +kernel
theorem dX4_rankFrom_136 : decode cX4_rankFrom 136 = .ok (.ishl, 1) := by decide +kernel
theorem dX4_rankFrom_137 : decode cX4_rankFrom 137 = .ok (.iconst (-1), 1) := by decide +kernel
theorem dX4_rankFrom_138 : decode cX4_rankFrom 138 = .ok (.ixor, 1) := by decide +kernel
theorem dX4_rankFrom_139 : decode cX4_rankFrom 139 = .ok (.iand, 1) := by decide +kernel
theorem dX4_rankFrom_140 : decode cX4_rankFrom 140 = .ok (.invokevirtual 52, 3) := by decide +kernel
theorem dX4_rankFrom_143 : decode cX4_rankFrom 143 = .ok (.iload 7, 2) := by decide +kernel
theorem dX4_rankFrom_145 : decode cX4_rankFrom 145 = .ok (.iload 5, 2) := by decide +kernel
theorem dX4_rankFrom_147 : decode cX4_rankFrom 147 = .ok (.iadd, 1) := by decide +kernel
theorem dX4_rankFrom_148 : decode cX4_rankFrom 148 = .ok (.istore 7, 2) := by decide +kernel
theorem dX4_rankFrom_150 : decode cX4_rankFrom 150 = .ok (.goto (-36), 3) := by decide +kernel
theorem dX4_rankFrom_153 : decode cX4_rankFrom 153 = .ok (.return_, 1) := by decide +kernel
theorem dX2_init_0 : decode cX2_init 0 = .ok (.aload_n 0, 1) := by decide +kernel
theorem dX2_init_1 : decode cX2_init 1 = .ok (.invokespecial 1, 3) := by decide +kernel
theorem dX2_init_4 : decode cX2_init 4 = .ok (.return_, 1) := by decide +kernel
theorem dX5_init_0 : decode cX5_init 0 = .ok (.aload_n 0, 1) := by decide +kernel
theorem dX5_init_1 : decode cX5_init 1 = .ok (.invokespecial 3, 3) := by decide +kernel
theorem dX5_init_4 : decode cX5_init 4 = .ok (.aload_n 0, 1) := by decide +kernel
theorem dX5_init_5 : decode cX5_init 5 = .ok (.new 9, 3) := by decide +kernel
theorem dX5_init_8 : decode cX5_init 8 = .ok (.dup, 1) := by decide +kernel
theorem dX5_init_9 : decode cX5_init 9 = .ok (.iconst 3, 1) := by decide +kernel
theorem dX5_init_10 : decode cX5_init 10 = .ok (.invokespecial 11, 3) := by decide +kernel
theorem dX5_init_13 : decode cX5_init 13 = .ok (.putfield 14, 3) := by decide +kernel
theorem dX5_init_16 : decode cX5_init 16 = .ok (.aload_n 0, 1) := by decide +kernel
theorem dX5_init_17 : decode cX5_init 17 = .ok (.new 9, 3) := by decide +kernel
theorem dX5_init_20 : decode cX5_init 20 = .ok (.dup, 1) := by decide +kernel
theorem dX5_init_21 : decode cX5_init 21 = .ok (.iconst 3, 1) := by decide +kernel
theorem dX5_init_22 : decode cX5_init 22 = .ok (.invokespecial 11, 3) := by decide +kernel
theorem dX5_init_25 : decode cX5_init 25 = .ok (.putfield 20, 3) := by decide +kernel
theorem dX5_init_28 : decode cX5_init 28 = .ok (.aload_n 0, 1) := by decide +kernel
theorem dX5_init_29 : decode cX5_init 29 = .ok (.iconst 3, 1) := by decide +kernel
theorem dX5_init_30 : decode cX5_init 30 = .ok (.anewarray 23, 3) := by decide +kernel
theorem dX5_init_33 : decode cX5_init 33 = .ok (.putfield 25, 3) := by decide +kernel
theorem dX5_init_36 : decode cX5_init 36 = .ok (.aload_n 0, 1) := by decide +kernel
theorem dX5_init_37 : decode cX5_init 37 = .ok (.new 9, 3) := by decide +kernel
theorem dX5_init_40 : decode cX5_init 40 = .ok (.dup, 1) := by decide +kernel
theorem dX5_init_41 : decode cX5_init 41 = .ok (.bipush 10, 2) := by decide +kernel
theorem dX5_init_43 : decode cX5_init 43 = .ok (.invokespecial 11, 3) := by decide +kernel
theorem dX5_init_46 : decode cX5_init 46 = .ok (.putfield 29, 3) := by decide +kernel
theorem dX5_init_49 : decode cX5_init 49 = .ok (.aload_n 0, 1) := by decide +kernel
theorem dX5_init_50 : decode cX5_init 50 = .ok (.new 9, 3) := by decide +kernel
theorem dX5_init_53 : decode cX5_init 53 = .ok (.dup, 1) := by decide +kernel
theorem dX5_init_54 : decode cX5_init 54 = .ok (.bipush 10, 2) := by decide +kernel
theorem dX5_init_56 : decode cX5_init 56 = .ok (.invokespecial 11, 3) := by decide +kernel
theorem dX5_init_59 : decode cX5_init 59 = .ok (.putfield 32, 3) := by decide +kernel
theorem dX5_init_62 : decode cX5_init 62 = .ok (.aload_n 0, 1) := by decide +kernel
theorem dX5_init_63 : decode cX5_init 63 = .ok (.aload_n 1, 1) := by decide +kernel
theorem dX5_init_64 : decode cX5_init 64 = .ok (.putfield 35, 3) := by decide +kernel
theorem dX5_init_67 : decode cX5_init 67 = .ok (.iconst 0, 1) := by decide +kernel
theorem dX5_init_68 : decode cX5_init 68 = .ok (.istore_n 2, 1) := by decide +kernel
theorem dX5_init_69 : decode cX5_init 69 = .ok (.iload_n 2, 1) := by decide +kernel
theorem dX5_init_70 : decode cX5_init 70 = .ok (.iconst 3, 1) := by decide +kernel
theorem dX5_init_71 : decode cX5_init 71 = .ok (.if_icmp .ge 22, 3) := by decide +kernel
theorem dX5_init_74 : decode cX5_init 74 = .ok (.aload_n 0, 1) := by decide +kernel
theorem dX5_init_75 : decode cX5_init 75 = .ok (.getfield 25, 3) := by decide +kernel
theorem dX5_init_78 : decode cX5_init 78 = .ok (.iload_n 2, 1) := by decide +kernel
theorem dX5_init_79 : decode cX5_init 79 = .ok (.new 23, 3) := by decide +kernel
theorem dX5_init_82 : decode cX5_init 82 = .ok (.dup, 1) := by decide +kernel
theorem dX5_init_83 : decode cX5_init 83 = .ok (.invokespecial 39, 3) := by decide +kernel
theorem dX5_init_86 : decode cX5_init 86 = .ok (.aastore, 1) := by decide +kernel
theorem dX5_init_87 : decode cX5_init 87 = .ok (.iinc 2 1, 3) := by decide +kernel
theorem dX5_init_90 : decode cX5_init 90 = .ok (.goto (-21), 3) := by decide +kernel
theorem dX5_init_93 : decode cX5_init 93 = .ok (.return_, 1) := by decide +kernel
theorem dX5_readAutomata_0 : decode cX5_readAutomata 0 = .ok (.aload_n 0, 1) := by decide +kernel
theorem dX5_readAutomata_1 : decode cX5_readAutomata 1 = .ok (.iconst 0, 1) := by decide +kernel
theorem dX5_readAutomata_2 : decode cX5_readAutomata 2 = .ok (.putfield 40, 3) := by decide +kernel
theorem dX5_readAutomata_5 : decode cX5_readAutomata 5 = .ok (.aload_n 0, 1) := by decide +kernel
theorem dX5_readAutomata_6 : decode cX5_readAutomata 6 = .ok (.iconst 0, 1) := by decide +kernel
theorem dX5_readAutomata_7 : decode cX5_readAutomata 7 = .ok (.putfield 44, 3) := by decide +kernel
theorem dX5_readAutomata_10 : decode cX5_readAutomata 10 = .ok (.iconst 0, 1) := by decide +kernel
theorem dX5_readAutomata_11 : decode cX5_readAutomata 11 = .ok (.istore_n 1, 1) := by decide +kernel
theorem dX5_readAutomata_12 : decode cX5_readAutomata 12 = .ok (.iload_n 1, 1) := by decide +kernel
theorem dX5_readAutomata_13 : decode cX5_readAutomata 13 = .ok (.sipush 400, 3) := by decide +kernel
theorem dX5_readAutomata_16 : decode cX5_readAutomata 16 = .ok (.if_icmp .ge 81, 3) := by decide +kernel
theorem dX5_readAutomata_19 : decode cX5_readAutomata 19 = .ok (.aload_n 0, 1) := by decide +kernel
theorem dX5_readAutomata_20 : decode cX5_readAutomata 20 = .ok (.invokevirtual 49, 3) := by decide +kernel
theorem dX5_readAutomata_23 : decode cX5_readAutomata 23 = .ok (.ifCond .ne 5, 3) := by decide +kernel
theorem dX5_readAutomata_26 : decode cX5_readAutomata 26 = .ok (.iconst 0, 1) := by decide +kernel
theorem dX5_readAutomata_27 : decode cX5_readAutomata 27 = .ok (.ireturn, 1) := by decide +kernel
theorem dX5_readAutomata_28 : decode cX5_readAutomata 28 = .ok (.aload_n 0, 1) := by decide +kernel
theorem dX5_readAutomata_29 : decode cX5_readAutomata 29 = .ok (.getfield 35, 3) := by decide +kernel
theorem dX5_readAutomata_32 : decode cX5_readAutomata 32 = .ok (.invokevirtual 53, 3) := by decide +kernel
theorem dX5_readAutomata_35 : decode cX5_readAutomata 35 = .ok (.aload_n 0, 1) := by decide +kernel
theorem dX5_readAutomata_36 : decode cX5_readAutomata 36 = .ok (.getfield 35, 3) := by decide +kernel
theorem dX5_readAutomata_39 : decode cX5_readAutomata 39 = .ok (.getfield 56, 3) := by decide +kernel
theorem dX5_readAutomata_42 : decode cX5_readAutomata 42 = .ok (.ifCond .ne 34, 3) := by decide +kernel
theorem dX5_readAutomata_45 : decode cX5_readAutomata 45 = .ok (.aload_n 0, 1) := by decide +kernel
theorem dX5_readAutomata_46 : decode cX5_readAutomata 46 = .ok (.getfield 40, 3) := by decide +kernel
theorem dX5_readAutomata_49 : decode cX5_readAutomata 49 = .ok (.ifCond .gt 21, 3) := by decide +kernel
theorem dX5_readAutomata_52 : decode cX5_readAutomata 52 = .ok (.aload_n 0, 1) := by decide +kernel
theorem dX5_readAutomata_53 : decode cX5_readAutomata 53 = .ok (.getfield 35, 3) := by decide +kernel
theorem dX5_readAutomata_56 : decode cX5_readAutomata 56 = .ok (.iconst 5, 1) := by decide +kernel
theorem dX5_readAutomata_57 : decode cX5_readAutomata 57 = .ok (.aload_n 0, 1) := by decide +kernel
theorem dX5_readAutomata_58 : decode cX5_readAutomata 58 = .ok (.getfield 35, 3) := by decide +kernel
theorem dX5_readAutomata_61 : decode cX5_readAutomata 61 = .ok (.getfield 59, 3) := by decide +kernel
theorem dX5_readAutomata_64 : decode cX5_readAutomata 64 = .ok (.invokevirtual 62, 3) := by decide +kernel
theorem dX5_readAutomata_67 : decode cX5_readAutomata 67 = .ok (.ifCond .eq 7, 3) := by decide +kernel
theorem dX5_readAutomata_70 : decode cX5_readAutomata 70 = .ok (.iconst 1, 1) := by decide +kernel
theorem dX5_readAutomata_71 : decode cX5_readAutomata 71 = .ok (.goto 4, 3) := by decide +kernel
theorem dX5_readAutomata_74 : decode cX5_readAutomata 74 = .ok (.iconst 0, 1) := by decide +kernel
theorem dX5_readAutomata_75 : decode cX5_readAutomata 75 = .ok (.ireturn, 1) := by decide +kernel
theorem dX5_readAutomata_76 : decode cX5_readAutomata 76 = .ok (.aload_n 0, 1) := by decide +kernel
theorem dX5_readAutomata_77 : decode cX5_readAutomata 77 = .ok (.getfield 35, 3) := by decide +kernel
theorem dX5_readAutomata_80 : decode cX5_readAutomata 80 = .ok (.getfield 56, 3) := by decide +kernel
theorem dX5_readAutomata_83 : decode cX5_readAutomata 83 = .ok (.bipush 59, 2) := by decide +kernel
theorem dX5_readAutomata_85 : decode cX5_readAutomata 85 = .ok (.if_icmp .eq 6, 3) := by decide +kernel
theorem dX5_readAutomata_88 : decode cX5_readAutomata 88 = .ok (.goto 9, 3) := by decide +kernel
theorem dX5_readAutomata_91 : decode cX5_readAutomata 91 = .ok (.iinc 1 1, 3) := by decide +kernel
theorem dX5_readAutomata_94 : decode cX5_readAutomata 94 = .ok (.goto (-82), 3) := by decide +kernel
theorem dX5_readAutomata_97 : decode cX5_readAutomata 97 = .ok (.aload_n 0, 1) := by decide +kernel
theorem dX5_readAutomata_98 : decode cX5_readAutomata 98 = .ok (.getfield 35, 3) := by decide +kernel
theorem dX5_readAutomata_101 : decode cX5_readAutomata 101 = .ok (.iconst 1, 1) := by decide +kernel
theorem dX5_readAutomata_102 : decode cX5_readAutomata 102 = .ok (.aload_n 0, 1) := by decide +kernel
theorem dX5_readAutomata_103 : decode cX5_readAutomata 103 = .ok (.getfield 35, 3) := by decide +kernel
theorem dX5_readAutomata_106 : decode cX5_readAutomata 106 = .ok (.getfield 59, 3) := by decide +kernel
theorem dX5_readAutomata_109 : decode cX5_readAutomata 109 = .ok (.invokevirtual 62, 3) := by decide +kernel
theorem dX5_readAutomata_112 : decode cX5_readAutomata 112 = .ok (.ireturn, 1) := by decide +kernel
theorem dX5_readLine_0 : decode cX5_readLine 0 = .ok (.aload_n 0, 1) := by decide +kernel
theorem dX5_readLine_1 : decode cX5_readLine 1 = .ok (.getfield 35, 3) := by decide +kernel
theorem dX5_readLine_4 : decode cX5_readLine 4 = .ok (.invokevirtual 53, 3) := by decide +kernel
theorem dX5_readLine_7 : decode cX5_readLine 7 = .ok (.aload_n 0, 1) := by decide +kernel
theorem dX5_readLine_8 : decode cX5_readLine 8 = .ok (.getfield 35, 3) := by decide +kernel
theorem dX5_readLine_11 : decode cX5_readLine 11 = .ok (.getfield 59, 3) := by decide +kernel
theorem dX5_readLine_14 : decode cX5_readLine 14 = .ok (.istore_n 1, 1) := by decide +kernel
theorem dX5_readLine_15 : decode cX5_readLine 15 = .ok (.aload_n 0, 1) := by decide +kernel
theorem dX5_readLine_16 : decode cX5_readLine 16 = .ok (.getfield 35, 3) := by decide +kernel
theorem dX5_readLine_19 : decode cX5_readLine 19 = .ok (.ldc 66, 2) := by decide +kernel
theorem dX5_readLine_21 : decode cX5_readLine 21 = .ok (.invokevirtual 68, 3) := by decide +kernel
theorem dX5_readLine_24 : decode cX5_readLine 24 = .ok (.ifCond .eq 9, 3) := by decide +kernel
theorem dX5_readLine_27 : decode cX5_readLine 27 = .ok (.aload_n 0, 1) := by decide +kernel
theorem dX5_readLine_28 : decode cX5_readLine 28 = .ok (.iload_n 1, 1) := by decide +kernel
theorem dX5_readLine_29 : decode cX5_readLine 29 = .ok (.invokevirtual 72, 3) := by decide +kernel
theorem dX5_readLine_32 : decode cX5_readLine 32 = .ok (.ireturn, 1) := by decide +kernel
theorem dX5_readLine_33 : decode cX5_readLine 33 = .ok (.aload_n 0, 1) := by decide +kernel
theorem dX5_readLine_34 : decode cX5_readLine 34 = .ok (.getfield 35, 3) := by decide +kernel
theorem dX5_readLine_37 : decode cX5_readLine 37 = .ok (.ldc 76, 2) := by decide +kernel
theorem dX5_readLine_39 : decode cX5_readLine 39 = .ok (.invokevirtual 68, 3) := by decide +kernel
theorem dX5_readLine_42 : decode cX5_readLine 42 = .ok (.ifCond .eq 9, 3) := by decide +kernel
theorem dX5_readLine_45 : decode cX5_readLine 45 = .ok (.aload_n 0, 1) := by decide +kernel
theorem dX5_readLine_46 : decode cX5_readLine 46 = .ok (.iload_n 1, 1) := by decide +kernel
theorem dX5_readLine_47 : decode cX5_readLine 47 = .ok (.invokevirtual 78, 3) := by decide +kernel
theorem dX5_readLine_50 : decode cX5_readLine 50 = .ok (.ireturn, 1) := by decide +kernel
theorem dX5_readLine_51 : decode cX5_readLine 51 = .ok (.aload_n 0, 1) := by decide +kernel
theorem dX5_readLine_52 : decode cX5_readLine 52 = .ok (.getfield 35, 3) := by decide +kernel
theorem dX5_readLine_55 : decode cX5_readLine 55 = .ok (.ldc 81, 2) := by decide +kernel
theorem dX5_readLine_57 : decode cX5_readLine 57 = .ok (.invokevirtual 68, 3) := by decide +kernel
theorem dX5_readLine_60 : decode cX5_readLine 60 = .ok (.ifCond .eq 10, 3) := by decide +kernel
theorem dX5_readLine_63 : decode cX5_readLine 63 = .ok (.aload_n 0, 1) := by decide +kernel
theorem dX5_readLine_64 : decode cX5_readLine 64 = .ok (.iload_n 1, 1) := by decide +kernel
theorem dX5_readLine_65 : decode cX5_readLine 65 = .ok (.iconst 1, 1) := by decide +kernel
theorem dX5_readLine_66 : decode cX5_readLine 66 = .ok (.invokevirtual 83, 3) := by decide +kernel
theorem dX5_readLine_69 : decode cX5_readLine 69 = .ok (.ireturn, 1) := by decide +kernel
theorem dX5_readLine_70 : decode cX5_readLine 70 = .ok (.aload_n 0, 1) := by decide +kernel
theorem dX5_readLine_71 : decode cX5_readLine 71 = .ok (.getfield 35, 3) := by decide +kernel
theorem dX5_readLine_74 : decode cX5_readLine 74 = .ok (.ldc 87, 2) := by decide +kernel
theorem dX5_readLine_76 : decode cX5_readLine 76 = .ok (.invokevirtual 68, 3) := by decide +kernel
theorem dX5_readLine_79 : decode cX5_readLine 79 = .ok (.ifCond .eq 10, 3) := by decide +kernel
theorem dX5_readLine_82 : decode cX5_readLine 82 = .ok (.aload_n 0, 1) := by decide +kernel
theorem dX5_readLine_83 : decode cX5_readLine 83 = .ok (.iload_n 1, 1) := by decide +kernel
theorem dX5_readLine_84 : decode cX5_readLine 84 = .ok (.iconst 0, 1) := by decide +kernel
theorem dX5_readLine_85 : decode cX5_readLine 85 = .ok (.invokevirtual 83, 3) := by decide +kernel
theorem dX5_readLine_88 : decode cX5_readLine 88 = .ok (.ireturn, 1) := by decide +kernel
theorem dX5_readLine_89 : decode cX5_readLine 89 = .ok (.aload_n 0, 1) := by decide +kernel
theorem dX5_readLine_90 : decode cX5_readLine 90 = .ok (.getfield 35, 3) := by decide +kernel
theorem dX5_readLine_93 : decode cX5_readLine 93 = .ok (.ldc 89, 2) := by decide +kernel
theorem dX5_readLine_95 : decode cX5_readLine 95 = .ok (.invokevirtual 68, 3) := by decide +kernel
theorem dX5_readLine_98 : decode cX5_readLine 98 = .ok (.ifCond .eq 9, 3) := by decide +kernel
theorem dX5_readLine_101 : decode cX5_readLine 101 = .ok (.aload_n 0, 1) := by decide +kernel
theorem dX5_readLine_102 : decode cX5_readLine 102 = .ok (.iload_n 1, 1) := by decide +kernel
theorem dX5_readLine_103 : decode cX5_readLine 103 = .ok (.invokevirtual 91, 3) := by decide +kernel
theorem dX5_readLine_106 : decode cX5_readLine 106 = .ok (.ireturn, 1) := by decide +kernel
theorem dX5_readLine_107 : decode cX5_readLine 107 = .ok (.aload_n 0, 1) := by decide +kernel
theorem dX5_readLine_108 : decode cX5_readLine 108 = .ok (.getfield 35, 3) := by decide +kernel
theorem dX5_readLine_111 : decode cX5_readLine 111 = .ok (.iconst 1, 1) := by decide +kernel
theorem dX5_readLine_112 : decode cX5_readLine 112 = .ok (.iload_n 1, 1) := by decide +kernel
theorem dX5_readLine_113 : decode cX5_readLine 113 = .ok (.invokevirtual 62, 3) := by decide +kernel
theorem dX5_readLine_116 : decode cX5_readLine 116 = .ok (.ireturn, 1) := by decide +kernel
theorem dX5_readLetters_0 : decode cX5_readLetters 0 = .ok (.aload_n 0, 1) := by decide +kernel
theorem dX5_readLetters_1 : decode cX5_readLetters 1 = .ok (.getfield 44, 3) := by decide +kernel
theorem dX5_readLetters_4 : decode cX5_readLetters 4 = .ok (.ifCond .le 13, 3) := by decide +kernel
theorem dX5_readLetters_7 : decode cX5_readLetters 7 = .ok (.aload_n 0, 1) := by decide +kernel
theorem dX5_readLetters_8 : decode cX5_readLetters 8 = .ok (.getfield 35, 3) := by decide +kernel
theorem dX5_readLetters_11 : decode cX5_readLetters 11 = .ok (.iconst 3, 1) := by decide +kernel
theorem dX5_readLetters_12 : decode cX5_readLetters 12 = .ok (.iload_n 1, 1) := by decide +kernel
theorem dX5_readLetters_13 : decode cX5_readLetters 13 = .ok (.invokevirtual 62, 3) := by decide +kernel
theorem dX5_readLetters_16 : decode cX5_readLetters 16 = .ok (.ireturn, 1) := by decide +kernel
theorem dX5_readLetters_17 : decode cX5_readLetters 17 = .ok (.aload_n 0, 1) := by decide +kernel
theorem dX5_readLetters_18 : decode cX5_readLetters 18 = .ok (.getfield 35, 3) := by decide +kernel
theorem dX5_readLetters_21 : decode cX5_readLetters 21 = .ok (.iconst 1, 1) := by decide +kernel
theorem dX5_readLetters_22 : decode cX5_readLetters 22 = .ok (.iconst 3, 1) := by decide +kernel
theorem dX5_readLetters_23 : decode cX5_readLetters 23 = .ok (.invokevirtual 94, 3) := by decide +kernel
theorem dX5_readLetters_26 : decode cX5_readLetters 26 = .ok (.istore_n 2, 1) := by decide +kernel
theorem dX5_readLetters_27 : decode cX5_readLetters 27 = .ok (.iload_n 2, 1) := by decide +kernel
theorem dX5_readLetters_28 : decode cX5_readLetters 28 = .ok (.iconst (-1), 1) := by decide +kernel
theorem dX5_readLetters_29 : decode cX5_readLetters 29 = .ok (.if_icmp .ne 5, 3) := by decide +kernel
theorem dX5_readLetters_32 : decode cX5_readLetters 32 = .ok (.iconst 0, 1) := by decide +kernel
theorem dX5_readLetters_33 : decode cX5_readLetters 33 = .ok (.ireturn, 1) := by decide +kernel
theorem dX5_readLetters_34 : decode cX5_readLetters 34 = .ok (.aload_n 0, 1) := by decide +kernel
theorem dX5_readLetters_35 : decode cX5_readLetters 35 = .ok (.iload_n 2, 1) := by decide +kernel
theorem dX5_readLetters_36 : decode cX5_readLetters 36 = .ok (.putfield 44, 3) := by decide +kernel
theorem dX5_readLetters_39 : decode cX5_readLetters 39 = .ok (.iconst 1, 1) := by decide +kernel
theorem dX5_readLetters_40 : decode cX5_readLetters 40 = .ok (.ireturn, 1) := by decide +kernel
theorem dX5_readAuto_0 : decode cX5_readAuto 0 = .ok (.aload_n 0, 1) := by decide +kernel
theorem dX5_readAuto_1 : decode cX5_readAuto 1 = .ok (.getfield 44, 3) := by decide +kernel
theorem dX5_readAuto_4 : decode cX5_readAuto 4 = .ok (.ifCond .ne 13, 3) := by decide +kernel
theorem dX5_readAuto_7 : decode cX5_readAuto 7 = .ok (.aload_n 0, 1) := by decide +kernel
theorem dX5_readAuto_8 : decode cX5_readAuto 8 = .ok (.getfield 35, 3) := by decide +kernel
theorem dX5_readAuto_11 : decode cX5_readAuto 11 = .ok (.iconst 5, 1) := by decide +kernel
theorem dX5_readAuto_12 : decode cX5_readAuto 12 = .ok (.iload_n 1, 1) := by decide +kernel
theorem dX5_readAuto_13 : decode cX5_readAuto 13 = .ok (.invokevirtual 62, 3) := by decide +kernel
theorem dX5_readAuto_16 : decode cX5_readAuto 16 = .ok (.ireturn, 1) := by decide +kernel
theorem dX5_readAuto_17 : decode cX5_readAuto 17 = .ok (.aload_n 0, 1) := by decide +kernel
theorem dX5_readAuto_18 : decode cX5_readAuto 18 = .ok (.getfield 40, 3) := by decide +kernel
theorem dX5_readAuto_21 : decode cX5_readAuto 21 = .ok (.iconst 3, 1) := by decide +kernel
theorem dX5_readAuto_22 : decode cX5_readAuto 22 = .ok (.if_icmp .lt 13, 3) := by decide +kernel
theorem dX5_readAuto_25 : decode cX5_readAuto 25 = .ok (.aload_n 0, 1) := by decide +kernel
theorem dX5_readAuto_26 : decode cX5_readAuto 26 = .ok (.getfield 35, 3) := by decide +kernel
theorem dX5_readAuto_29 : decode cX5_readAuto 29 = .ok (.iconst 4, 1) := by decide +kernel
theorem dX5_readAuto_30 : decode cX5_readAuto 30 = .ok (.iload_n 1, 1) := by decide +kernel
theorem dX5_readAuto_31 : decode cX5_readAuto 31 = .ok (.invokevirtual 62, 3) := by decide +kernel
theorem dX5_readAuto_34 : decode cX5_readAuto 34 = .ok (.ireturn, 1) := by decide +kernel
theorem dX5_readAuto_35 : decode cX5_readAuto 35 = .ok (.aload_n 0, 1) := by decide +kernel
theorem dX5_readAuto_36 : decode cX5_readAuto 36 = .ok (.invokevirtual 98, 3) := by decide +kernel
theorem dX5_readAuto_39 : decode cX5_readAuto 39 = .ok (.ifCond .ne 5, 3) := by decide +kernel
theorem dX5_readAuto_42 : decode cX5_readAuto 42 = .ok (.iconst 0, 1) := by decide +kernel
theorem dX5_readAuto_43 : decode cX5_readAuto 43 = .ok (.ireturn, 1) := by decide +kernel
theorem dX5_readAuto_44 : decode cX5_readAuto 44 = .ok (.aload_n 0, 1) := by decide +kernel
theorem dX5_readAuto_45 : decode cX5_readAuto 45 = .ok (.getfield 35, 3) := by decide +kernel
theorem dX5_readAuto_48 : decode cX5_readAuto 48 = .ok (.invokevirtual 53, 3) := by decide +kernel
theorem dX5_readAuto_51 : decode cX5_readAuto 51 = .ok (.aload_n 0, 1) := by decide +kernel
theorem dX5_readAuto_52 : decode cX5_readAuto 52 = .ok (.getfield 35, 3) := by decide +kernel
theorem dX5_readAuto_55 : decode cX5_readAuto 55 = .ok (.ldc 101, 2) := by decide +kernel
theorem dX5_readAuto_57 : decode cX5_readAuto 57 = .ok (.invokevirtual 68, 3) := by decide +kernel
theorem dX5_readAuto_60 : decode cX5_readAuto 60 = .ok (.ifCond .ne 19, 3) := by decide +kernel
theorem dX5_readAuto_63 : decode cX5_readAuto 63 = .ok (.aload_n 0, 1) := by decide +kernel
theorem dX5_readAuto_64 : decode cX5_readAuto 64 = .ok (.getfield 35, 3) := by decide +kernel
theorem dX5_readAuto_67 : decode cX5_readAuto 67 = .ok (.iconst 1, 1) := by decide +kernel
theorem dX5_readAuto_68 : decode cX5_readAuto 68 = .ok (.aload_n 0, 1) := by decide +kernel
theorem dX5_readAuto_69 : decode cX5_readAuto 69 = .ok (.getfield 35, 3) := by decide +kernel
theorem dX5_readAuto_72 : decode cX5_readAuto 72 = .ok (.getfield 59, 3) := by decide +kernel
theorem dX5_readAuto_75 : decode cX5_readAuto 75 = .ok (.invokevirtual 62, 3) := by decide +kernel
theorem dX5_readAuto_78 : decode cX5_readAuto 78 = .ok (.ireturn, 1) := by decide +kernel
theorem dX5_readAuto_79 : decode cX5_readAuto 79 = .ok (.aload_n 0, 1) := by decide +kernel
theorem dX5_readAuto_80 : decode cX5_readAuto 80 = .ok (.getfield 35, 3) := by decide +kernel
theorem dX5_readAuto_83 : decode cX5_readAuto 83 = .ok (.iconst 1, 1) := by decide +kernel
theorem dX5_readAuto_84 : decode cX5_readAuto 84 = .ok (.iconst 4, 1) := by decide +kernel
theorem dX5_readAuto_85 : decode cX5_readAuto 85 = .ok (.invokevirtual 94, 3) := by decide +kernel
theorem dX5_readAuto_88 : decode cX5_readAuto 88 = .ok (.istore_n 2, 1) := by decide +kernel
theorem dX5_readAuto_89 : decode cX5_readAuto 89 = .ok (.iload_n 2, 1) := by decide +kernel
theorem dX5_readAuto_90 : decode cX5_readAuto 90 = .ok (.iconst (-1), 1) := by decide +kernel
theorem dX5_readAuto_91 : decode cX5_readAuto 91 = .ok (.if_icmp .ne 5, 3) := by decide +kernel
theorem dX5_readAuto_94 : decode cX5_readAuto 94 = .ok (.iconst 0, 1) := by decide +kernel
theorem dX5_readAuto_95 : decode cX5_readAuto 95 = .ok (.ireturn, 1) := by decide +kernel
theorem dX5_readAuto_96 : decode cX5_readAuto 96 = .ok (.aload_n 0, 1) := by decide +kernel
theorem dX5_readAuto_97 : decode cX5_readAuto 97 = .ok (.getfield 25, 3) := by decide +kernel
theorem dX5_readAuto_100 : decode cX5_readAuto 100 = .ok (.aload_n 0, 1) := by decide +kernel
theorem dX5_readAuto_101 : decode cX5_readAuto 101 = .ok (.getfield 40, 3) := by decide +kernel
theorem dX5_readAuto_104 : decode cX5_readAuto 104 = .ok (.aaload, 1) := by decide +kernel
theorem dX5_readAuto_105 : decode cX5_readAuto 105 = .ok (.iload_n 2, 1) := by decide +kernel
theorem dX5_readAuto_106 : decode cX5_readAuto 106 = .ok (.aload_n 0, 1) := by decide +kernel
theorem dX5_readAuto_107 : decode cX5_readAuto 107 = .ok (.getfield 44, 3) := by decide +kernel
theorem dX5_readAuto_110 : decode cX5_readAuto 110 = .ok (.invokevirtual 103, 3) := by decide +kernel
theorem dX5_readAuto_113 : decode cX5_readAuto 113 = .ok (.aload_n 0, 1) := by decide +kernel
theorem dX5_readAuto_114 : decode cX5_readAuto 114 = .ok (.dup, 1) := by decide +kernel
theorem dX5_readAuto_115 : decode cX5_readAuto 115 = .ok (.getfield 40, 3) := by decide +kernel
theorem dX5_readAuto_118 : decode cX5_readAuto 118 = .ok (.iconst 1, 1) := by decide +kernel
theorem dX5_readAuto_119 : decode cX5_readAuto 119 = .ok (.iadd, 1) := by decide +kernel
theorem dX5_readAuto_120 : decode cX5_readAuto 120 = .ok (.putfield 40, 3) := by decide +kernel
theorem dX5_readAuto_123 : decode cX5_readAuto 123 = .ok (.iconst 1, 1) := by decide +kernel
theorem dX5_readAuto_124 : decode cX5_readAuto 124 = .ok (.ireturn, 1) := by decide +kernel
theorem dX5_readName_0 : decode cX5_readName 0 = .ok (.aload_n 0, 1) := by decide +kernel
theorem dX5_readName_1 : decode cX5_readName 1 = .ok (.getfield 35, 3) := by decide +kernel
theorem dX5_readName_4 : decode cX5_readName 4 = .ok (.invokevirtual 53, 3) := by decide +kernel
theorem dX5_readName_7 : decode cX5_readName 7 = .ok (.aload_n 0, 1) := by decide +kernel
theorem dX5_readName_8 : decode cX5_readName 8 = .ok (.getfield 35, 3) := by decide +kernel
theorem dX5_readName_11 : decode cX5_readName 11 = .ok (.getfield 56, 3) := by decide +kernel
theorem dX5_readName_14 : decode cX5_readName 14 = .ok (.iconst 2, 1) := by decide +kernel
theorem dX5_readName_15 : decode cX5_readName 15 = .ok (.if_icmp .ne 10, 3) := by decide +kernel
theorem dX5_readName_18 : decode cX5_readName 18 = .ok (.aload_n 0, 1) := by decide +kernel
theorem dX5_readName_19 : decode cX5_readName 19 = .ok (.invokevirtual 107, 3) := by decide +kernel
theorem dX5_readName_22 : decode cX5_readName 22 = .ok (.ifCond .eq 19, 3) := by decide +kernel
theorem dX5_readName_25 : decode cX5_readName 25 = .ok (.aload_n 0, 1) := by decide +kernel
theorem dX5_readName_26 : decode cX5_readName 26 = .ok (.getfield 35, 3) := by decide +kernel
theorem dX5_readName_29 : decode cX5_readName 29 = .ok (.iconst 1, 1) := by decide +kernel
theorem dX5_readName_30 : decode cX5_readName 30 = .ok (.aload_n 0, 1) := by decide +kernel
theorem dX5_readName_31 : decode cX5_readName 31 = .ok (.getfield 35, 3) := by decide +kernel
theorem dX5_readName_34 : decode cX5_readName 34 = .ok (.getfield 59, 3) := by decide +kernel
theorem dX5_readName_37 : decode cX5_readName 37 = .ok (.invokevirtual 62, 3) := by decide +kernel
theorem dX5_readName_40 : decode cX5_readName 40 = .ok (.ireturn, 1) := by decide +kernel
theorem dX5_readName_41 : decode cX5_readName 41 = .ok (.iconst 0, 1) := by decide +kernel
theorem dX5_readName_42 : decode cX5_readName 42 = .ok (.istore_n 1, 1) := by decide +kernel
theorem dX5_readName_43 : decode cX5_readName 43 = .ok (.iload_n 1, 1) := by decide +kernel
theorem dX5_readName_44 : decode cX5_readName 44 = .ok (.aload_n 0, 1) := by decide +kernel
theorem dX5_readName_45 : decode cX5_readName 45 = .ok (.getfield 40, 3) := by decide +kernel
theorem dX5_readName_48 : decode cX5_readName 48 = .ok (.if_icmp .ge 33, 3) := by decide +kernel
theorem dX5_readName_51 : decode cX5_readName 51 = .ok (.aload_n 0, 1) := by decide +kernel
theorem dX5_readName_52 : decode cX5_readName 52 = .ok (.iload_n 1, 1) := by decide +kernel
theorem dX5_readName_53 : decode cX5_readName 53 = .ok (.invokevirtual 110, 3) := by decide +kernel
theorem dX5_readName_56 : decode cX5_readName 56 = .ok (.ifCond .eq 19, 3) := by decide +kernel
theorem dX5_readName_59 : decode cX5_readName 59 = .ok (.aload_n 0, 1) := by decide +kernel
theorem dX5_readName_60 : decode cX5_readName 60 = .ok (.getfield 35, 3) := by decide +kernel
theorem dX5_readName_63 : decode cX5_readName 63 = .ok (.iconst 3, 1) := by decide +kernel
theorem dX5_readName_64 : decode cX5_readName 64 = .ok (.aload_n 0, 1) := by decide +kernel
theorem dX5_readName_65 : decode cX5_readName 65 = .ok (.getfield 35, 3) := by decide +kernel
theorem dX5_readName_68 : decode cX5_readName 68 = .ok (.getfield 59, 3) := by decide +kernel
theorem dX5_readName_71 : decode cX5_readName 71 = .ok (.invokevirtual 62, 3) := by decide +kernel
theorem dX5_readName_74 : decode cX5_readName 74 = .ok (.ireturn, 1) := by decide +kernel
theorem dX5_readName_75 : decode cX5_readName 75 = .ok (.iinc 1 1, 3) := by decide +kernel
theorem dX5_readName_78 : decode cX5_readName 78 = .ok (.goto (-35), 3) := by decide +kernel
theorem dX5_readName_81 : decode cX5_readName 81 = .ok (.aload_n 0, 1) := by decide +kernel
theorem dX5_readName_82 : decode cX5_readName 82 = .ok (.getfield 14, 3) := by decide +kernel
theorem dX5_readName_85 : decode cX5_readName 85 = .ok (.aload_n 0, 1) := by decide +kernel
theorem dX5_readName_86 : decode cX5_readName 86 = .ok (.getfield 40, 3) := by decide +kernel
theorem dX5_readName_89 : decode cX5_readName 89 = .ok (.aload_n 0, 1) := by decide +kernel
theorem dX5_readName_90 : decode cX5_readName 90 = .ok (.getfield 35, 3) := by decide +kernel
theorem dX5_readName_93 : decode cX5_readName 93 = .ok (.getfield 59, 3) := by decide +kernel
theorem dX5_readName_96 : decode cX5_readName 96 = .ok (.invokevirtual 113, 3) := by decide +kernel
theorem dX5_readName_99 : decode cX5_readName 99 = .ok (.aload_n 0, 1) := by decide +kernel
theorem dX5_readName_100 : decode cX5_readName 100 = .ok (.getfield 20, 3) := by decide +kernel
theorem dX5_readName_103 : decode cX5_readName 103 = .ok (.aload_n 0, 1) := by decide +kernel
theorem dX5_readName_104 : decode cX5_readName 104 = .ok (.getfield 40, 3) := by decide +kernel
theorem dX5_readName_107 : decode cX5_readName 107 = .ok (.aload_n 0, 1) := by decide +kernel
theorem dX5_readName_108 : decode cX5_readName 108 = .ok (.getfield 35, 3) := by decide +kernel
theorem dX5_readName_111 : decode cX5_readName 111 = .ok (.getfield 116, 3) := by decide +kernel
theorem dX5_readName_114 : decode cX5_readName 114 = .ok (.invokevirtual 113, 3) := by decide +kernel
theorem dX5_readName_117 : decode cX5_readName 117 = .ok (.iconst 1, 1) := by decide +kernel
theorem dX5_readName_118 : decode cX5_readName 118 = .ok (.ireturn, 1) := by decide +kernel
theorem dX5_isKept_0 : decode cX5_isKept 0 = .ok (.aload_n 0, 1) := by decide +kernel
theorem dX5_isKept_1 : decode cX5_isKept 1 = .ok (.getfield 35, 3) := by decide +kernel
theorem dX5_isKept_4 : decode cX5_isKept 4 = .ok (.ldc 66, 2) := by decide +kernel
theorem dX5_isKept_6 : decode cX5_isKept 6 = .ok (.invokevirtual 68, 3) := by decide +kernel
theorem dX5_isKept_9 : decode cX5_isKept 9 = .ok (.ifCond .ne 63, 3) := by decide +kernel
theorem dX5_isKept_12 : decode cX5_isKept 12 = .ok (.aload_n 0, 1) := by decide +kernel
theorem dX5_isKept_13 : decode cX5_isKept 13 = .ok (.getfield 35, 3) := by decide +kernel
theorem dX5_isKept_16 : decode cX5_isKept 16 = .ok (.ldc 76, 2) := by decide +kernel
theorem dX5_isKept_18 : decode cX5_isKept 18 = .ok (.invokevirtual 68, 3) := by decide +kernel
theorem dX5_isKept_21 : decode cX5_isKept 21 = .ok (.ifCond .ne 51, 3) := by decide +kernel
theorem dX5_isKept_24 : decode cX5_isKept 24 = .ok (.aload_n 0, 1) := by decide +kernel
theorem dX5_isKept_25 : decode cX5_isKept 25 = .ok (.getfield 35, 3) := by decide +kernel
theorem dX5_isKept_28 : decode cX5_isKept 28 = .ok (.ldc 101, 2) := by decide +kernel
theorem dX5_isKept_30 : decode cX5_isKept 30 = .ok (.invokevirtual 68, 3) := by decide +kernel
theorem dX5_isKept_33 : decode cX5_isKept 33 = .ok (.ifCond .ne 39, 3) := by decide +kernel
theorem dX5_isKept_36 : decode cX5_isKept 36 = .ok (.aload_n 0, 1) := by decide +kernel
theorem dX5_isKept_37 : decode cX5_isKept 37 = .ok (.getfield 35, 3) := by decide +kernel
theorem dX5_isKept_40 : decode cX5_isKept 40 = .ok (.ldc 81, 2) := by decide +kernel
theorem dX5_isKept_42 : decode cX5_isKept 42 = .ok (.invokevirtual 68, 3) := by decide +kernel
theorem dX5_isKept_45 : decode cX5_isKept 45 = .ok (.ifCond .ne 27, 3) := by decide +kernel
theorem dX5_isKept_48 : decode cX5_isKept 48 = .ok (.aload_n 0, 1) := by decide +kernel
theorem dX5_isKept_49 : decode cX5_isKept 49 = .ok (.getfield 35, 3) := by decide +kernel
theorem dX5_isKept_52 : decode cX5_isKept 52 = .ok (.ldc 87, 2) := by decide +kernel
theorem dX5_isKept_54 : decode cX5_isKept 54 = .ok (.invokevirtual 68, 3) := by decide +kernel
theorem dX5_isKept_57 : decode cX5_isKept 57 = .ok (.ifCond .ne 15, 3) := by decide +kernel
theorem dX5_isKept_60 : decode cX5_isKept 60 = .ok (.aload_n 0, 1) := by decide +kernel
theorem dX5_isKept_61 : decode cX5_isKept 61 = .ok (.getfield 35, 3) := by decide +kernel
