theorem dX0_init_0 : decode cX0_init 0 = .ok (.aload_n 0, 1) := by decide +kernel
theorem dX0_init_1 : decode cX0_init 1 = .ok (.invokespecial 3, 3) := by decide +kernel
theorem dX0_init_4 : decode cX0_init 4 = .ok (.aload_n 0, 1) := by decide +kernel
theorem dX0_init_5 : decode cX0_init 5 = .ok (.iconst 5, 1) := by decide +kernel
theorem dX0_init_6 : decode cX0_init 6 = .ok (.newarray .int, 2) := by decide +kernel
theorem dX0_init_8 : decode cX0_init 8 = .ok (.putfield 11, 3) := by decide +kernel
theorem dX0_init_11 : decode cX0_init 11 = .ok (.iconst 0, 1) := by decide +kernel
theorem dX0_init_12 : decode cX0_init 12 = .ok (.istore_n 1, 1) := by decide +kernel
theorem dX0_init_13 : decode cX0_init 13 = .ok (.iload_n 1, 1) := by decide +kernel
theorem dX0_init_14 : decode cX0_init 14 = .ok (.aload_n 0, 1) := by decide +kernel
theorem dX0_init_15 : decode cX0_init 15 = .ok (.getfield 11, 3) := by decide +kernel
theorem dX0_init_18 : decode cX0_init 18 = .ok (.arraylength, 1) := by decide +kernel
theorem dX0_init_19 : decode cX0_init 19 = .ok (.if_icmp .ge 16, 3) := by decide +kernel
theorem dX0_init_22 : decode cX0_init 22 = .ok (.aload_n 0, 1) := by decide +kernel
theorem dX0_init_23 : decode cX0_init 23 = .ok (.getfield 11, 3) := by decide +kernel
theorem dX0_init_26 : decode cX0_init 26 = .ok (.iload_n 1, 1) := by decide +kernel
theorem dX0_init_27 : decode cX0_init 27 = .ok (.iconst 1, 1) := by decide +kernel
theorem dX0_init_28 : decode cX0_init 28 = .ok (.iastore, 1) := by decide +kernel
theorem dX0_init_29 : decode cX0_init 29 = .ok (.iinc 1 1, 3) := by decide +kernel
theorem dX0_init_32 : decode cX0_init 32 = .ok (.goto (-19), 3) := by decide +kernel
theorem dX0_init_35 : decode cX0_init 35 = .ok (.return_, 1) := by decide +kernel
theorem dX0_has_0 : decode cX0_has 0 = .ok (.iload_n 1, 1) := by decide +kernel
theorem dX0_has_1 : decode cX0_has 1 = .ok (.ifCond .lt 16, 3) := by decide +kernel
theorem dX0_has_4 : decode cX0_has 4 = .ok (.iload_n 1, 1) := by decide +kernel
theorem dX0_has_5 : decode cX0_has 5 = .ok (.aload_n 0, 1) := by decide +kernel
theorem dX0_has_6 : decode cX0_has 6 = .ok (.getfield 11, 3) := by decide +kernel
theorem dX0_has_9 : decode cX0_has 9 = .ok (.arraylength, 1) := by decide +kernel
theorem dX0_has_10 : decode cX0_has 10 = .ok (.if_icmp .ge 7, 3) := by decide +kernel
theorem dX0_has_13 : decode cX0_has 13 = .ok (.iconst 1, 1) := by decide +kernel
theorem dX0_has_14 : decode cX0_has 14 = .ok (.goto 4, 3) := by decide +kernel
theorem dX0_has_17 : decode cX0_has 17 = .ok (.iconst 0, 1) := by decide +kernel
theorem dX0_has_18 : decode cX0_has 18 = .ok (.ireturn, 1) := by decide +kernel
theorem dX0_hasAny_0 : decode cX0_hasAny 0 = .ok (.iconst 0, 1) := by decide +kernel
theorem dX0_hasAny_1 : decode cX0_hasAny 1 = .ok (.istore_n 2, 1) := by decide +kernel
theorem dX0_hasAny_2 : decode cX0_hasAny 2 = .ok (.iload_n 2, 1) := by decide +kernel
theorem dX0_hasAny_3 : decode cX0_hasAny 3 = .ok (.aload_n 0, 1) := by decide +kernel
theorem dX0_hasAny_4 : decode cX0_hasAny 4 = .ok (.getfield 11, 3) := by decide +kernel
theorem dX0_hasAny_7 : decode cX0_hasAny 7 = .ok (.arraylength, 1) := by decide +kernel
theorem dX0_hasAny_8 : decode cX0_hasAny 8 = .ok (.if_icmp .ge 21, 3) := by decide +kernel
theorem dX0_hasAny_11 : decode cX0_hasAny 11 = .ok (.aload_n 0, 1) := by decide +kernel
theorem dX0_hasAny_12 : decode cX0_hasAny 12 = .ok (.getfield 11, 3) := by decide +kernel
theorem dX0_hasAny_15 : decode cX0_hasAny 15 = .ok (.iload_n 2, 1) := by decide +kernel
theorem dX0_hasAny_16 : decode cX0_hasAny 16 = .ok (.iaload, 1) := by decide +kernel
theorem dX0_hasAny_17 : decode cX0_hasAny 17 = .ok (.iload_n 1, 1) := by decide +kernel
theorem dX0_hasAny_18 : decode cX0_hasAny 18 = .ok (.if_icmp .ne 5, 3) := by decide +kernel
theorem dX0_hasAny_21 : decode cX0_hasAny 21 = .ok (.iconst 1, 1) := by decide +kernel
theorem dX0_hasAny_22 : decode cX0_hasAny 22 = .ok (.ireturn, 1) := by decide +kernel
theorem dX0_hasAny_23 : decode cX0_hasAny 23 = .ok (.iinc 2 1, 3) := by decide +kernel
theorem dX0_hasAny_26 : decode cX0_hasAny 26 = .ok (.goto (-24), 3) := by decide +kernel
theorem dX0_hasAny_29 : decode cX0_hasAny 29 = .ok (.iconst 0, 1) := by decide +kernel
theorem dX0_hasAny_30 : decode cX0_hasAny 30 = .ok (.ireturn, 1) := by decide +kernel
set_option maxRecDepth 20000 in
theorem ggX0_isGuarded_X0_hasAny : GoodIn wsX0_isGuarded wsX0_hasAny := goodIn_r _ [8, 9, 10, 11, 12] (by decide +kernel) (by decide +kernel)
set_option maxRecDepth 20000 in
theorem gX0_isGuarded_X0_hasAny : GoodIn wsX0_isGuarded (wsV RX0 15 RX0 yX0_hasAny wsX0_hasAny) := goodIn_app (goodIn_of _ (by decide +kernel)) ggX0_isGuarded_X0_hasAny
theorem dX0_isGuarded_0 : decode cX0_isGuarded 0 = .ok (.aload_n 0, 1) := by decide +kernel
theorem dX0_isGuarded_1 : decode cX0_isGuarded 1 = .ok (.iconst 0, 1) := by decide +kernel
theorem dX0_isGuarded_2 : decode cX0_isGuarded 2 = .ok (.invokevirtual 15, 3) := by decide +kernel
theorem dX0_isGuarded_5 : decode cX0_isGuarded 5 = .ok (.ifCond .ne 23, 3) := by decide +kernel
theorem dX0_isGuarded_8 : decode cX0_isGuarded 8 = .ok (.aload_n 0, 1) := by decide +kernel
theorem dX0_isGuarded_9 : decode cX0_isGuarded 9 = .ok (.getfield 19, 3) := by decide +kernel
theorem dX0_isGuarded_12 : decode cX0_isGuarded 12 = .ok (.aload_n 0, 1) := by decide +kernel
theorem dX0_isGuarded_13 : decode cX0_isGuarded 13 = .ok (.getfield 23, 3) := by decide +kernel
theorem dX0_isGuarded_16 : decode cX0_isGuarded 16 = .ok (.lsub, 1) := by decide +kernel
theorem dX0_isGuarded_17 : decode cX0_isGuarded 17 = .ok (.ldc2_w 26, 3) := by decide +kernel
theorem dX0_isGuarded_20 : decode cX0_isGuarded 20 = .ok (.lcmp, 1) := by decide +kernel
theorem dX0_isGuarded_21 : decode cX0_isGuarded 21 = .ok (.ifCond .lt 7, 3) := by decide +kernel
theorem dX0_isGuarded_24 : decode cX0_isGuarded 24 = .ok (.iconst 1, 1) := by decide +kernel
theorem dX0_isGuarded_25 : decode cX0_isGuarded 25 = .ok (.goto 4, 3) := by decide +kernel
theorem dX0_isGuarded_28 : decode cX0_isGuarded 28 = .ok (.iconst 0, 1) := by decide +kernel
theorem dX0_isGuarded_29 : decode cX0_isGuarded 29 = .ok (.ireturn, 1) := by decide +kernel
set_option maxRecDepth 20000 in
theorem ggX0_openAll_X0_turn : GoodIn wsX0_openAll wsX0_turn := goodIn_r _ [5, 6, 7, 8, 9] (by decide +kernel) (by decide +kernel)
set_option maxRecDepth 20000 in
theorem gX0_openAll_X0_turn : GoodIn wsX0_openAll (wsV RX0 28 RX0 yX0_turn wsX0_turn) := goodIn_app (goodIn_of _ (by decide +kernel)) ggX0_openAll_X0_turn
theorem dX0_openAll_0 : decode cX0_openAll 0 = .ok (.aload_n 0, 1) := by decide +kernel
theorem dX0_openAll_1 : decode cX0_openAll 1 = .ok (.iconst 1, 1) := by decide +kernel
theorem dX0_openAll_2 : decode cX0_openAll 2 = .ok (.iconst 0, 1) := by decide +kernel
theorem dX0_openAll_3 : decode cX0_openAll 3 = .ok (.invokevirtual 28, 3) := by decide +kernel
theorem dX0_openAll_6 : decode cX0_openAll 6 = .ok (.aload_n 0, 1) := by decide +kernel
theorem dX0_openAll_7 : decode cX0_openAll 7 = .ok (.iconst 2, 1) := by decide +kernel
theorem dX0_openAll_8 : decode cX0_openAll 8 = .ok (.iconst 0, 1) := by decide +kernel
theorem dX0_openAll_9 : decode cX0_openAll 9 = .ok (.invokevirtual 28, 3) := by decide +kernel
theorem dX0_openAll_12 : decode cX0_openAll 12 = .ok (.iadd, 1) := by decide +kernel
theorem dX0_openAll_13 : decode cX0_openAll 13 = .ok (.ireturn, 1) := by decide +kernel
set_option maxRecDepth 20000 in
theorem ggX0_openOne_X0_put : GoodIn wsX0_openOne wsX0_put := goodIn_r _ [5, 6, 7, 8, 9, 4, 10, 11, 12, 13] (by decide +kernel) (by decide +kernel)
set_option maxRecDepth 20000 in
theorem gX0_openOne_X0_put : GoodIn wsX0_openOne (wsV RX0 32 RX0 yX0_put wsX0_put) := goodIn_app (goodIn_of _ (by decide +kernel)) ggX0_openOne_X0_put
theorem dX0_openOne_0 : decode cX0_openOne 0 = .ok (.aload_n 0, 1) := by decide +kernel
theorem dX0_openOne_1 : decode cX0_openOne 1 = .ok (.iload_n 1, 1) := by decide +kernel
theorem dX0_openOne_2 : decode cX0_openOne 2 = .ok (.iconst 0, 1) := by decide +kernel
theorem dX0_openOne_3 : decode cX0_openOne 3 = .ok (.invokevirtual 32, 3) := by decide +kernel
theorem dX0_openOne_6 : decode cX0_openOne 6 = .ok (.return_, 1) := by decide +kernel
set_option maxRecDepth 20000 in
theorem ggX0_openBootUnlessDead_X0_is : GoodIn wsX0_openBootUnlessDead wsX0_is := goodIn_r _ [5, 6, 7, 8, 9, 4, 10, 15, 16, 17] (by decide +kernel) (by decide +kernel)
set_option maxRecDepth 20000 in
theorem gX0_openBootUnlessDead_X0_is : GoodIn wsX0_openBootUnlessDead (wsV RX0 36 RX0 yX0_is wsX0_is) := goodIn_app (goodIn_of _ (by decide +kernel)) ggX0_openBootUnlessDead_X0_is
set_option maxRecDepth 20000 in
theorem ggX0_openBootUnlessDead_X0_put : GoodIn wsX0_openBootUnlessDead wsX0_put := goodIn_r _ [14, 6, 7, 8, 9, 4, 10, 15, 16, 17] (by decide +kernel) (by decide +kernel)
set_option maxRecDepth 20000 in
theorem gX0_openBootUnlessDead_X0_put : GoodIn wsX0_openBootUnlessDead (wsV RX0 32 RX0 yX0_put wsX0_put) := goodIn_app (goodIn_of _ (by decide +kernel)) ggX0_openBootUnlessDead_X0_put
theorem dX0_openBootUnlessDead_0 : decode cX0_openBootUnlessDead 0 = .ok (.aload_n 0, 1) := by decide +kernel
theorem dX0_openBootUnlessDead_1 : decode cX0_openBootUnlessDead 1 = .ok (.iconst 4, 1) := by decide +kernel
theorem dX0_openBootUnlessDead_2 : decode cX0_openBootUnlessDead 2 = .ok (.iconst 2, 1) := by decide +kernel
theorem dX0_openBootUnlessDead_3 : decode cX0_openBootUnlessDead 3 = .ok (.invokevirtual 36, 3) := by decide +kernel
theorem dX0_openBootUnlessDead_6 : decode cX0_openBootUnlessDead 6 = .ok (.ifCond .ne 9, 3) := by decide +kernel
theorem dX0_openBootUnlessDead_9 : decode cX0_openBootUnlessDead 9 = .ok (.aload_n 0, 1) := by decide +kernel
theorem dX0_openBootUnlessDead_10 : decode cX0_openBootUnlessDead 10 = .ok (.iconst 4, 1) := by decide +kernel
theorem dX0_openBootUnlessDead_11 : decode cX0_openBootUnlessDead 11 = .ok (.iconst 0, 1) := by decide +kernel
theorem dX0_openBootUnlessDead_12 : decode cX0_openBootUnlessDead 12 = .ok (.invokevirtual 32, 3) := by decide +kernel
theorem dX0_openBootUnlessDead_15 : decode cX0_openBootUnlessDead 15 = .ok (.return_, 1) := by decide +kernel
set_option maxRecDepth 20000 in
theorem ggX0_shutAll_X0_turn : GoodIn wsX0_shutAll wsX0_turn := goodIn_r _ [5, 6, 17, 18, 19] (by decide +kernel) (by decide +kernel)
set_option maxRecDepth 20000 in
theorem gX0_shutAll_X0_turn : GoodIn wsX0_shutAll (wsV RX0 28 RX0 yX0_turn wsX0_turn) := goodIn_app (goodIn_of _ (by decide +kernel)) ggX0_shutAll_X0_turn
set_option maxRecDepth 20000 in
theorem ggX0_shutAll_X0_noteShut : GoodIn wsX0_shutAll wsX0_noteShut := goodIn_r _ [10, 11, 12, 13, 14, 15, 4, 16, 6, 17, 18, 19] (by decide +kernel) (by decide +kernel)
set_option maxRecDepth 20000 in
theorem gX0_shutAll_X0_noteShut : GoodIn wsX0_shutAll (wsV RX0 40 RX0 yX0_noteShut wsX0_noteShut) := goodIn_app (goodIn_of _ (by decide +kernel)) ggX0_shutAll_X0_noteShut
theorem dX0_shutAll_0 : decode cX0_shutAll 0 = .ok (.aload_n 0, 1) := by decide +kernel
theorem dX0_shutAll_1 : decode cX0_shutAll 1 = .ok (.iconst 0, 1) := by decide +kernel
theorem dX0_shutAll_2 : decode cX0_shutAll 2 = .ok (.iconst 1, 1) := by decide +kernel
theorem dX0_shutAll_3 : decode cX0_shutAll 3 = .ok (.invokevirtual 28, 3) := by decide +kernel
theorem dX0_shutAll_6 : decode cX0_shutAll 6 = .ok (.istore_n 1, 1) := by decide +kernel
theorem dX0_shutAll_7 : decode cX0_shutAll 7 = .ok (.aload_n 0, 1) := by decide +kernel
theorem dX0_shutAll_8 : decode cX0_shutAll 8 = .ok (.iload_n 1, 1) := by decide +kernel
theorem dX0_shutAll_9 : decode cX0_shutAll 9 = .ok (.invokevirtual 40, 3) := by decide +kernel
theorem dX0_shutAll_12 : decode cX0_shutAll 12 = .ok (.iload_n 1, 1) := by decide +kernel
theorem dX0_shutAll_13 : decode cX0_shutAll 13 = .ok (.ireturn, 1) := by decide +kernel
set_option maxRecDepth 20000 in
theorem ggX0_shutBoot_X0_is : GoodIn wsX0_shutBoot wsX0_is := goodIn_r _ [5, 6, 7, 8, 9, 4, 10, 25, 26, 27] (by decide +kernel) (by decide +kernel)
set_option maxRecDepth 20000 in
theorem gX0_shutBoot_X0_is : GoodIn wsX0_shutBoot (wsV RX0 36 RX0 yX0_is wsX0_is) := goodIn_app (goodIn_of _ (by decide +kernel)) ggX0_shutBoot_X0_is
set_option maxRecDepth 20000 in
theorem ggX0_shutBoot_X0_put : GoodIn wsX0_shutBoot wsX0_put := goodIn_r _ [14, 6, 7, 8, 9, 4, 10, 25, 26, 27] (by decide +kernel) (by decide +kernel)
set_option maxRecDepth 20000 in
theorem gX0_shutBoot_X0_put : GoodIn wsX0_shutBoot (wsV RX0 32 RX0 yX0_put wsX0_put) := goodIn_app (goodIn_of _ (by decide +kernel)) ggX0_shutBoot_X0_put
set_option maxRecDepth 20000 in
theorem ggX0_shutBoot_X0_noteShut : GoodIn wsX0_shutBoot wsX0_noteShut := goodIn_r _ [18, 19, 20, 21, 22, 23, 4, 24, 6, 25, 26, 27] (by decide +kernel) (by decide +kernel)
set_option maxRecDepth 20000 in
theorem gX0_shutBoot_X0_noteShut : GoodIn wsX0_shutBoot (wsV RX0 40 RX0 yX0_noteShut wsX0_noteShut) := goodIn_app (goodIn_of _ (by decide +kernel)) ggX0_shutBoot_X0_noteShut
theorem dX0_shutBoot_0 : decode cX0_shutBoot 0 = .ok (.aload_n 0, 1) := by decide +kernel
theorem dX0_shutBoot_1 : decode cX0_shutBoot 1 = .ok (.iconst 4, 1) := by decide +kernel
theorem dX0_shutBoot_2 : decode cX0_shutBoot 2 = .ok (.iconst 0, 1) := by decide +kernel
theorem dX0_shutBoot_3 : decode cX0_shutBoot 3 = .ok (.invokevirtual 36, 3) := by decide +kernel
theorem dX0_shutBoot_6 : decode cX0_shutBoot 6 = .ok (.ifCond .ne 5, 3) := by decide +kernel
theorem dX0_shutBoot_9 : decode cX0_shutBoot 9 = .ok (.iconst 0, 1) := by decide +kernel
theorem dX0_shutBoot_10 : decode cX0_shutBoot 10 = .ok (.ireturn, 1) := by decide +kernel
theorem dX0_shutBoot_11 : decode cX0_shutBoot 11 = .ok (.aload_n 0, 1) := by decide +kernel
theorem dX0_shutBoot_12 : decode cX0_shutBoot 12 = .ok (.iconst 4, 1) := by decide +kernel
theorem dX0_shutBoot_13 : decode cX0_shutBoot 13 = .ok (.iconst 1, 1) := by decide +kernel
theorem dX0_shutBoot_14 : decode cX0_shutBoot 14 = .ok (.invokevirtual 32, 3) := by decide +kernel
theorem dX0_shutBoot_17 : decode cX0_shutBoot 17 = .ok (.aload_n 0, 1) := by decide +kernel
theorem dX0_shutBoot_18 : decode cX0_shutBoot 18 = .ok (.iconst 1, 1) := by decide +kernel
theorem dX0_shutBoot_19 : decode cX0_shutBoot 19 = .ok (.invokevirtual 40, 3) := by decide +kernel
theorem dX0_shutBoot_22 : decode cX0_shutBoot 22 = .ok (.iconst 1, 1) := by decide +kernel
theorem dX0_shutBoot_23 : decode cX0_shutBoot 23 = .ok (.ireturn, 1) := by decide +kernel
set_option maxRecDepth 20000 in
theorem ggX0_deadenUnlessOpen_X0_hasAny : GoodIn wsX0_deadenUnlessOpen wsX0_hasAny := goodIn_r _ [5, 6, 11, 12, 13] (by decide +kernel) (by decide +kernel)
set_option maxRecDepth 20000 in
theorem gX0_deadenUnlessOpen_X0_hasAny : GoodIn wsX0_deadenUnlessOpen (wsV RX0 15 RX0 yX0_hasAny wsX0_hasAny) := goodIn_app (goodIn_of _ (by decide +kernel)) ggX0_deadenUnlessOpen_X0_hasAny
set_option maxRecDepth 20000 in
theorem ggX0_deadenUnlessOpen_X0_turn : GoodIn wsX0_deadenUnlessOpen wsX0_turn := goodIn_r _ [10, 6, 11, 12, 13] (by decide +kernel) (by decide +kernel)
set_option maxRecDepth 20000 in
theorem gX0_deadenUnlessOpen_X0_turn : GoodIn wsX0_deadenUnlessOpen (wsV RX0 28 RX0 yX0_turn wsX0_turn) := goodIn_app (goodIn_of _ (by decide +kernel)) ggX0_deadenUnlessOpen_X0_turn
theorem dX0_deadenUnlessOpen_0 : decode cX0_deadenUnlessOpen 0 = .ok (.aload_n 0, 1) := by decide +kernel
theorem dX0_deadenUnlessOpen_1 : decode cX0_deadenUnlessOpen 1 = .ok (.iconst 0, 1) := by decide +kernel
theorem dX0_deadenUnlessOpen_2 : decode cX0_deadenUnlessOpen 2 = .ok (.invokevirtual 15, 3) := by decide +kernel
theorem dX0_deadenUnlessOpen_5 : decode cX0_deadenUnlessOpen 5 = .ok (.ifCond .eq 7, 3) := by decide +kernel
theorem dX0_deadenUnlessOpen_8 : decode cX0_deadenUnlessOpen 8 = .ok (.iconst 0, 1) := by decide +kernel
theorem dX0_deadenUnlessOpen_9 : decode cX0_deadenUnlessOpen 9 = .ok (.goto 9, 3) := by decide +kernel
theorem dX0_deadenUnlessOpen_12 : decode cX0_deadenUnlessOpen 12 = .ok (.aload_n 0, 1) := by decide +kernel
theorem dX0_deadenUnlessOpen_13 : decode cX0_deadenUnlessOpen 13 = .ok (.iconst 1, 1) := by decide +kernel
theorem dX0_deadenUnlessOpen_14 : decode cX0_deadenUnlessOpen 14 = .ok (.iconst 2, 1) := by decide +kernel
theorem dX0_deadenUnlessOpen_15 : decode cX0_deadenUnlessOpen 15 = .ok (.invokevirtual 28, 3) := by decide +kernel
theorem dX0_deadenUnlessOpen_18 : decode cX0_deadenUnlessOpen 18 = .ok (.ireturn, 1) := by decide +kernel
theorem dX0_nearestTo_0 : decode cX0_nearestTo 0 = .ok (.iconst (-1), 1) := by decide +kernel
theorem dX0_nearestTo_1 : decode cX0_nearestTo 1 = .ok (.istore 5, 2) := by decide +kernel
theorem dX0_nearestTo_3 : decode cX0_nearestTo 3 = .ok (.ldc2_w 44, 3) := by decide +kernel
theorem dX0_nearestTo_6 : decode cX0_nearestTo 6 = .ok (.lstore 6, 2) := by decide +kernel
theorem dX0_nearestTo_8 : decode cX0_nearestTo 8 = .ok (.iconst 0, 1) := by decide +kernel
theorem dX0_nearestTo_9 : decode cX0_nearestTo 9 = .ok (.istore 8, 2) := by decide +kernel
theorem dX0_nearestTo_11 : decode cX0_nearestTo 11 = .ok (.iload 8, 2) := by decide +kernel
theorem dX0_nearestTo_13 : decode cX0_nearestTo 13 = .ok (.getstatic 46, 3) := by decide +kernel
theorem dX0_nearestTo_16 : decode cX0_nearestTo 16 = .ok (.arraylength, 1) := by decide +kernel
theorem dX0_nearestTo_17 : decode cX0_nearestTo 17 = .ok (.if_icmp .ge 69, 3) := by decide +kernel
theorem dX0_nearestTo_20 : decode cX0_nearestTo 20 = .ok (.iload 8, 2) := by decide +kernel
theorem dX0_nearestTo_22 : decode cX0_nearestTo 22 = .ok (.getstatic 49, 3) := by decide +kernel
theorem dX0_nearestTo_25 : decode cX0_nearestTo 25 = .ok (.arraylength, 1) := by decide +kernel
theorem dX0_nearestTo_26 : decode cX0_nearestTo 26 = .ok (.if_icmp .ge 60, 3) := by decide +kernel
theorem dX0_nearestTo_29 : decode cX0_nearestTo 29 = .ok (.lload_n 1, 1) := by decide +kernel
theorem dX0_nearestTo_30 : decode cX0_nearestTo 30 = .ok (.getstatic 46, 3) := by decide +kernel
theorem dX0_nearestTo_33 : decode cX0_nearestTo 33 = .ok (.iload 8, 2) := by decide +kernel
theorem dX0_nearestTo_35 : decode cX0_nearestTo 35 = .ok (.iaload, 1) := by decide +kernel
theorem dX0_nearestTo_36 : decode cX0_nearestTo 36 = .ok (.i2l, 1) := by decide +kernel
theorem dX0_nearestTo_37 : decode cX0_nearestTo 37 = .ok (.lsub, 1) := by decide +kernel
theorem dX0_nearestTo_38 : decode cX0_nearestTo 38 = .ok (.lstore 9, 2) := by decide +kernel
theorem dX0_nearestTo_40 : decode cX0_nearestTo 40 = .ok (.lload_n 3, 1) := by decide +kernel
theorem dX0_nearestTo_41 : decode cX0_nearestTo 41 = .ok (.getstatic 49, 3) := by decide +kernel
theorem dX0_nearestTo_44 : decode cX0_nearestTo 44 = .ok (.iload 8, 2) := by decide +kernel
theorem dX0_nearestTo_46 : decode cX0_nearestTo 46 = .ok (.iaload, 1) := by decide +kernel
theorem dX0_nearestTo_47 : decode cX0_nearestTo 47 = .ok (.i2l, 1) := by decide +kernel
theorem dX0_nearestTo_48 : decode cX0_nearestTo 48 = .ok (.lsub, 1) := by decide +kernel
theorem dX0_nearestTo_49 : decode cX0_nearestTo 49 = .ok (.lstore 11, 2) := by decide +kernel
theorem dX0_nearestTo_51 : decode cX0_nearestTo 51 = .ok (.lload 9, 2) := by decide +kernel
theorem dX0_nearestTo_53 : decode cX0_nearestTo 53 = .ok (.lload 9, 2) := by decide +kernel
theorem dX0_nearestTo_55 : decode cX0_nearestTo 55 = .ok (.lmul, 1) := by decide +kernel
theorem dX0_nearestTo_56 : decode cX0_nearestTo 56 = .ok (.lload 11, 2) := by decide +kernel
theorem dX0_nearestTo_58 : decode cX0_nearestTo 58 = .ok (.lload 11, 2) := by decide +kernel
theorem dX0_nearestTo_60 : decode cX0_nearestTo 60 = .ok (.lmul, 1) := by decide +kernel
theorem dX0_nearestTo_61 : decode cX0_nearestTo 61 = .ok (.ladd, 1) := by decide +kernel
theorem dX0_nearestTo_62 : decode cX0_nearestTo 62 = .ok (.lstore 13, 2) := by decide +kernel
theorem dX0_nearestTo_64 : decode cX0_nearestTo 64 = .ok (.lload 13, 2) := by decide +kernel
theorem dX0_nearestTo_66 : decode cX0_nearestTo 66 = .ok (.lload 6, 2) := by decide +kernel
theorem dX0_nearestTo_68 : decode cX0_nearestTo 68 = .ok (.lcmp, 1) := by decide +kernel
theorem dX0_nearestTo_69 : decode cX0_nearestTo 69 = .ok (.ifCond .ge 11, 3) := by decide +kernel
theorem dX0_nearestTo_72 : decode cX0_nearestTo 72 = .ok (.lload 13, 2) := by decide +kernel
theorem dX0_nearestTo_74 : decode cX0_nearestTo 74 = .ok (.lstore 6, 2) := by decide +kernel
theorem dX0_nearestTo_76 : decode cX0_nearestTo 76 = .ok (.iload 8, 2) := by decide +kernel
theorem dX0_nearestTo_78 : decode cX0_nearestTo 78 = .ok (.istore 5, 2) := by decide +kernel
theorem dX0_nearestTo_80 : decode cX0_nearestTo 80 = .ok (.iinc 8 1, 3) := by decide +kernel
theorem dX0_nearestTo_83 : decode cX0_nearestTo 83 = .ok (.goto (-72), 3) := by decide +kernel
theorem dX0_nearestTo_86 : decode cX0_nearestTo 86 = .ok (.iload 5, 2) := by decide +kernel
theorem dX0_nearestTo_88 : decode cX0_nearestTo 88 = .ok (.ireturn, 1) := by decide +kernel
set_option maxRecDepth 20000 in
theorem ggX0_is_X0_has : GoodIn wsX0_is wsX0_has := goodIn_r _ [6, 1, 7, 8, 9] (by decide +kernel) (by decide +kernel)
set_option maxRecDepth 20000 in
theorem gX0_is_X0_has : GoodIn wsX0_is (wsV RX0 52 RX0 yX0_has wsX0_has) := goodIn_app (goodIn_of _ (by decide +kernel)) ggX0_is_X0_has
theorem dX0_is_0 : decode cX0_is 0 = .ok (.aload_n 0, 1) := by decide +kernel
theorem dX0_is_1 : decode cX0_is 1 = .ok (.iload_n 1, 1) := by decide +kernel
theorem dX0_is_2 : decode cX0_is 2 = .ok (.invokevirtual 52, 3) := by decide +kernel
theorem dX0_is_5 : decode cX0_is 5 = .ok (.ifCond .eq 17, 3) := by decide +kernel
theorem dX0_is_8 : decode cX0_is 8 = .ok (.aload_n 0, 1) := by decide +kernel
theorem dX0_is_9 : decode cX0_is 9 = .ok (.getfield 11, 3) := by decide +kernel
theorem dX0_is_12 : decode cX0_is 12 = .ok (.iload_n 1, 1) := by decide +kernel
theorem dX0_is_13 : decode cX0_is 13 = .ok (.iaload, 1) := by decide +kernel
theorem dX0_is_14 : decode cX0_is 14 = .ok (.iload_n 2, 1) := by decide +kernel
theorem dX0_is_15 : decode cX0_is 15 = .ok (.if_icmp .ne 7, 3) := by decide +kernel
theorem dX0_is_18 : decode cX0_is 18 = .ok (.iconst 1, 1) := by decide +kernel
theorem dX0_is_19 : decode cX0_is 19 = .ok (.goto 4, 3) := by decide +kernel
theorem dX0_is_22 : decode cX0_is 22 = .ok (.iconst 0, 1) := by decide +kernel
theorem dX0_is_23 : decode cX0_is 23 = .ok (.ireturn, 1) := by decide +kernel
set_option maxRecDepth 20000 in
theorem ggX0_put_X0_has : GoodIn wsX0_put wsX0_has := goodIn_r _ [6, 1, 7, 8, 9] (by decide +kernel) (by decide +kernel)
set_option maxRecDepth 20000 in
theorem gX0_put_X0_has : GoodIn wsX0_put (wsV RX0 52 RX0 yX0_has wsX0_has) := goodIn_app (goodIn_of _ (by decide +kernel)) ggX0_put_X0_has
theorem dX0_put_0 : decode cX0_put 0 = .ok (.aload_n 0, 1) := by decide +kernel
theorem dX0_put_1 : decode cX0_put 1 = .ok (.iload_n 1, 1) := by decide +kernel
theorem dX0_put_2 : decode cX0_put 2 = .ok (.invokevirtual 52, 3) := by decide +kernel
theorem dX0_put_5 : decode cX0_put 5 = .ok (.ifCond .eq 10, 3) := by decide +kernel
theorem dX0_put_8 : decode cX0_put 8 = .ok (.aload_n 0, 1) := by decide +kernel
theorem dX0_put_9 : decode cX0_put 9 = .ok (.getfield 11, 3) := by decide +kernel
theorem dX0_put_12 : decode cX0_put 12 = .ok (.iload_n 1, 1) := by decide +kernel
theorem dX0_put_13 : decode cX0_put 13 = .ok (.iload_n 2, 1) := by decide +kernel
theorem dX0_put_14 : decode cX0_put 14 = .ok (.iastore, 1) := by decide +kernel
theorem dX0_put_15 : decode cX0_put 15 = .ok (.return_, 1) := by decide +kernel
theorem dX0_turn_0 : decode cX0_turn 0 = .ok (.iconst 0, 1) := by decide +kernel
theorem dX0_turn_1 : decode cX0_turn 1 = .ok (.istore_n 3, 1) := by decide +kernel
theorem dX0_turn_2 : decode cX0_turn 2 = .ok (.iconst 0, 1) := by decide +kernel
theorem dX0_turn_3 : decode cX0_turn 3 = .ok (.istore 4, 2) := by decide +kernel
theorem dX0_turn_5 : decode cX0_turn 5 = .ok (.iload 4, 2) := by decide +kernel
theorem dX0_turn_7 : decode cX0_turn 7 = .ok (.aload_n 0, 1) := by decide +kernel
theorem dX0_turn_8 : decode cX0_turn 8 = .ok (.getfield 11, 3) := by decide +kernel
theorem dX0_turn_11 : decode cX0_turn 11 = .ok (.arraylength, 1) := by decide +kernel
theorem dX0_turn_12 : decode cX0_turn 12 = .ok (.if_icmp .ge 31, 3) := by decide +kernel
theorem dX0_turn_15 : decode cX0_turn 15 = .ok (.aload_n 0, 1) := by decide +kernel
theorem dX0_turn_16 : decode cX0_turn 16 = .ok (.getfield 11, 3) := by decide +kernel
theorem dX0_turn_19 : decode cX0_turn 19 = .ok (.iload 4, 2) := by decide +kernel
theorem dX0_turn_21 : decode cX0_turn 21 = .ok (.iaload, 1) := by decide +kernel
theorem dX0_turn_22 : decode cX0_turn 22 = .ok (.iload_n 1, 1) := by decide +kernel
theorem dX0_turn_23 : decode cX0_turn 23 = .ok (.if_icmp .ne 14, 3) := by decide +kernel
theorem dX0_turn_26 : decode cX0_turn 26 = .ok (.aload_n 0, 1) := by decide +kernel
theorem dX0_turn_27 : decode cX0_turn 27 = .ok (.getfield 11, 3) := by decide +kernel
theorem dX0_turn_30 : decode cX0_turn 30 = .ok (.iload 4, 2) := by decide +kernel
theorem dX0_turn_32 : decode cX0_turn 32 = .ok (.iload_n 2, 1) := by decide +kernel
theorem dX0_turn_33 : decode cX0_turn 33 = .ok (.iastore, 1) := by decide +kernel
theorem dX0_turn_34 : decode cX0_turn 34 = .ok (.iinc 3 1, 3) := by decide +kernel
theorem dX0_turn_37 : decode cX0_turn 37 = .ok (.iinc 4 1, 3) := by decide +kernel
theorem dX0_turn_40 : decode cX0_turn 40 = .ok (.goto (-35), 3) := by decide +kernel
theorem dX0_turn_43 : decode cX0_turn 43 = .ok (.iload_n 3, 1) := by decide +kernel
theorem dX0_turn_44 : decode cX0_turn 44 = .ok (.ireturn, 1) := by decide +kernel
set_option maxRecDepth 20000 in
theorem ggX0_noteShut_X0_hasAny : GoodIn wsX0_noteShut wsX0_hasAny := goodIn_r _ [7, 8, 9, 10, 11] (by decide +kernel) (by decide +kernel)
set_option maxRecDepth 20000 in
theorem gX0_noteShut_X0_hasAny : GoodIn wsX0_noteShut (wsV RX0 15 RX0 yX0_hasAny wsX0_hasAny) := goodIn_app (goodIn_of _ (by decide +kernel)) ggX0_noteShut_X0_hasAny
theorem dX0_noteShut_0 : decode cX0_noteShut 0 = .ok (.iload_n 1, 1) := by decide +kernel
theorem dX0_noteShut_1 : decode cX0_noteShut 1 = .ok (.ifCond .le 19, 3) := by decide +kernel
theorem dX0_noteShut_4 : decode cX0_noteShut 4 = .ok (.aload_n 0, 1) := by decide +kernel
theorem dX0_noteShut_5 : decode cX0_noteShut 5 = .ok (.iconst 0, 1) := by decide +kernel
theorem dX0_noteShut_6 : decode cX0_noteShut 6 = .ok (.invokevirtual 15, 3) := by decide +kernel
theorem dX0_noteShut_9 : decode cX0_noteShut 9 = .ok (.ifCond .ne 11, 3) := by decide +kernel
theorem dX0_noteShut_12 : decode cX0_noteShut 12 = .ok (.aload_n 0, 1) := by decide +kernel
theorem dX0_noteShut_13 : decode cX0_noteShut 13 = .ok (.aload_n 0, 1) := by decide +kernel
theorem dX0_noteShut_14 : decode cX0_noteShut 14 = .ok (.getfield 19, 3) := by decide +kernel
theorem dX0_noteShut_17 : decode cX0_noteShut 17 = .ok (.putfield 23, 3) := by decide +kernel
theorem dX0_noteShut_20 : decode cX0_noteShut 20 = .ok (.return_, 1) := by decide +kernel
theorem dX1_init_0 : decode cX1_init 0 = .ok (.aload_n 0, 1) := by decide +kernel
theorem dX1_init_1 : decode cX1_init 1 = .ok (.invokespecial 1, 3) := by decide +kernel
theorem dX1_init_4 : decode cX1_init 4 = .ok (.aload_n 0, 1) := by decide +kernel
theorem dX1_init_5 : decode cX1_init 5 = .ok (.bipush 16, 2) := by decide +kernel
theorem dX1_init_7 : decode cX1_init 7 = .ok (.newarray .byte, 2) := by decide +kernel
theorem dX1_init_9 : decode cX1_init 9 = .ok (.putfield 9, 3) := by decide +kernel
theorem dX1_init_12 : decode cX1_init 12 = .ok (.return_, 1) := by decide +kernel
theorem dX1_clear_0 : decode cX1_clear 0 = .ok (.aload_n 0, 1) := by decide +kernel
theorem dX1_clear_1 : decode cX1_clear 1 = .ok (.iconst 0, 1) := by decide +kernel
theorem dX1_clear_2 : decode cX1_clear 2 = .ok (.putfield 13, 3) := by decide +kernel
theorem dX1_clear_5 : decode cX1_clear 5 = .ok (.return_, 1) := by decide +kernel
theorem dX1_keep_0 : decode cX1_keep 0 = .ok (.aload_n 0, 1) := by decide +kernel
theorem dX1_keep_1 : decode cX1_keep 1 = .ok (.getfield 13, 3) := by decide +kernel
theorem dX1_keep_4 : decode cX1_keep 4 = .ok (.ifCond .lt 35, 3) := by decide +kernel
theorem dX1_keep_7 : decode cX1_keep 7 = .ok (.aload_n 0, 1) := by decide +kernel
theorem dX1_keep_8 : decode cX1_keep 8 = .ok (.getfield 13, 3) := by decide +kernel
theorem dX1_keep_11 : decode cX1_keep 11 = .ok (.aload_n 0, 1) := by decide +kernel
theorem dX1_keep_12 : decode cX1_keep 12 = .ok (.getfield 9, 3) := by decide +kernel
theorem dX1_keep_15 : decode cX1_keep 15 = .ok (.arraylength, 1) := by decide +kernel
theorem dX1_keep_16 : decode cX1_keep 16 = .ok (.if_icmp .ge 23, 3) := by decide +kernel
theorem dX1_keep_19 : decode cX1_keep 19 = .ok (.aload_n 0, 1) := by decide +kernel
theorem dX1_keep_20 : decode cX1_keep 20 = .ok (.getfield 9, 3) := by decide +kernel
theorem dX1_keep_23 : decode cX1_keep 23 = .ok (.aload_n 0, 1) := by decide +kernel
theorem dX1_keep_24 : decode cX1_keep 24 = .ok (.getfield 13, 3) := by decide +kernel
theorem dX1_keep_27 : decode cX1_keep 27 = .ok (.iload_n 1, 1) := by decide +kernel
theorem dX1_keep_28 : decode cX1_keep 28 = .ok (.bastore, 1) := by decide +kernel
theorem dX1_keep_29 : decode cX1_keep 29 = .ok (.aload_n 0, 1) := by decide +kernel
theorem dX1_keep_30 : decode cX1_keep 30 = .ok (.dup, 1) := by decide +kernel
theorem dX1_keep_31 : decode cX1_keep 31 = .ok (.getfield 13, 3) := by decide +kernel
theorem dX1_keep_34 : decode cX1_keep 34 = .ok (.iconst 1, 1) := by decide +kernel
theorem dX1_keep_35 : decode cX1_keep 35 = .ok (.iadd, 1) := by decide +kernel
theorem dX1_keep_36 : decode cX1_keep 36 = .ok (.putfield 13, 3) := by decide +kernel
theorem dX1_keep_39 : decode cX1_keep 39 = .ok (.return_, 1) := by decide +kernel
theorem dX1_has_0 : decode cX1_has 0 = .ok (.iload_n 1, 1) := by decide +kernel
theorem dX1_has_1 : decode cX1_has 1 = .ok (.ifCond .lt 24, 3) := by decide +kernel
theorem dX1_has_4 : decode cX1_has 4 = .ok (.iload_n 1, 1) := by decide +kernel
theorem dX1_has_5 : decode cX1_has 5 = .ok (.aload_n 0, 1) := by decide +kernel
theorem dX1_has_6 : decode cX1_has 6 = .ok (.getfield 13, 3) := by decide +kernel
theorem dX1_has_9 : decode cX1_has 9 = .ok (.if_icmp .ge 16, 3) := by decide +kernel
theorem dX1_has_12 : decode cX1_has 12 = .ok (.iload_n 1, 1) := by decide +kernel
theorem dX1_has_13 : decode cX1_has 13 = .ok (.aload_n 0, 1) := by decide +kernel
theorem dX1_has_14 : decode cX1_has 14 = .ok (.getfield 9, 3) := by decide +kernel
theorem dX1_has_17 : decode cX1_has 17 = .ok (.arraylength, 1) := by decide +kernel
theorem dX1_has_18 : decode cX1_has 18 = .ok (.if_icmp .ge 7, 3) := by decide +kernel
theorem dX1_has_21 : decode cX1_has 21 = .ok (.iconst 1, 1) := by decide +kernel
theorem dX1_has_22 : decode cX1_has 22 = .ok (.goto 4, 3) := by decide +kernel
theorem dX1_has_25 : decode cX1_has 25 = .ok (.iconst 0, 1) := by decide +kernel
theorem dX1_has_26 : decode cX1_has 26 = .ok (.ireturn, 1) := by decide +kernel
set_option maxRecDepth 20000 in
theorem ggX1_isSound_X1_unsigned : GoodIn wsX1_isSound wsX1_unsigned := goodIn_r _ [6, 7, 8, 9, 10, 5, 11, 1, 12, 13] (by decide +kernel) (by decide +kernel)
set_option maxRecDepth 20000 in
theorem gX1_isSound_X1_unsigned : GoodIn wsX1_isSound (wsV RX1 17 RX1 yX1_unsigned wsX1_unsigned) := goodIn_app (goodIn_of _ (by decide +kernel)) ggX1_isSound_X1_unsigned
theorem dX1_isSound_0 : decode cX1_isSound 0 = .ok (.aload_n 0, 1) := by decide +kernel
theorem dX1_isSound_1 : decode cX1_isSound 1 = .ok (.getfield 13, 3) := by decide +kernel
theorem dX1_isSound_4 : decode cX1_isSound 4 = .ok (.bipush 8, 2) := by decide +kernel
theorem dX1_isSound_6 : decode cX1_isSound 6 = .ok (.if_icmp .eq 5, 3) := by decide +kernel
theorem dX1_isSound_9 : decode cX1_isSound 9 = .ok (.iconst 0, 1) := by decide +kernel
theorem dX1_isSound_10 : decode cX1_isSound 10 = .ok (.ireturn, 1) := by decide +kernel
theorem dX1_isSound_11 : decode cX1_isSound 11 = .ok (.iconst 0, 1) := by decide +kernel
theorem dX1_isSound_12 : decode cX1_isSound 12 = .ok (.istore_n 1, 1) := by decide +kernel
theorem dX1_isSound_13 : decode cX1_isSound 13 = .ok (.iconst 0, 1) := by decide +kernel
theorem dX1_isSound_14 : decode cX1_isSound 14 = .ok (.istore_n 2, 1) := by decide +kernel
theorem dX1_isSound_15 : decode cX1_isSound 15 = .ok (.iload_n 2, 1) := by decide +kernel
theorem dX1_isSound_16 : decode cX1_isSound 16 = .ok (.bipush 8, 2) := by decide +kernel
theorem dX1_isSound_18 : decode cX1_isSound 18 = .ok (.if_icmp .ge 17, 3) := by decide +kernel
theorem dX1_isSound_21 : decode cX1_isSound 21 = .ok (.iload_n 1, 1) := by decide +kernel
theorem dX1_isSound_22 : decode cX1_isSound 22 = .ok (.aload_n 0, 1) := by decide +kernel
theorem dX1_isSound_23 : decode cX1_isSound 23 = .ok (.iload_n 2, 1) := by decide +kernel
theorem dX1_isSound_24 : decode cX1_isSound 24 = .ok (.invokevirtual 17, 3) := by decide +kernel
theorem dX1_isSound_27 : decode cX1_isSound 27 = .ok (.ixor, 1) := by decide +kernel
theorem dX1_isSound_28 : decode cX1_isSound 28 = .ok (.istore_n 1, 1) := by decide +kernel
theorem dX1_isSound_29 : decode cX1_isSound 29 = .ok (.iinc 2 1, 3) := by decide +kernel
theorem dX1_isSound_32 : decode cX1_isSound 32 = .ok (.goto (-17), 3) := by decide +kernel
theorem dX1_isSound_35 : decode cX1_isSound 35 = .ok (.iload_n 1, 1) := by decide +kernel
theorem dX1_isSound_36 : decode cX1_isSound 36 = .ok (.ifCond .ne 7, 3) := by decide +kernel
theorem dX1_isSound_39 : decode cX1_isSound 39 = .ok (.iconst 1, 1) := by decide +kernel
theorem dX1_isSound_40 : decode cX1_isSound 40 = .ok (.goto 4, 3) := by decide +kernel
theorem dX1_isSound_43 : decode cX1_isSound 43 = .ok (.iconst 0, 1) := by decide +kernel
theorem dX1_isSound_44 : decode cX1_isSound 44 = .ok (.ireturn, 1) := by decide +kernel
set_option maxRecDepth 20000 in
theorem ggX1_sender_X1_unsigned : GoodIn wsX1_sender wsX1_unsigned := goodIn_r _ [5, 6, 7, 8, 9, 4, 10, 11, 12, 13] (by decide +kernel) (by decide +kernel)
set_option maxRecDepth 20000 in
theorem gX1_sender_X1_unsigned : GoodIn wsX1_sender (wsV RX1 17 RX1 yX1_unsigned wsX1_unsigned) := goodIn_app (goodIn_of _ (by decide +kernel)) ggX1_sender_X1_unsigned
theorem dX1_sender_0 : decode cX1_sender 0 = .ok (.aload_n 0, 1) := by decide +kernel
theorem dX1_sender_1 : decode cX1_sender 1 = .ok (.iconst 0, 1) := by decide +kernel
theorem dX1_sender_2 : decode cX1_sender 2 = .ok (.invokevirtual 17, 3) := by decide +kernel
theorem dX1_sender_5 : decode cX1_sender 5 = .ok (.ireturn, 1) := by decide +kernel
set_option maxRecDepth 20000 in
theorem ggX1_command_X1_unsigned : GoodIn wsX1_command wsX1_unsigned := goodIn_r _ [5, 6, 7, 8, 9, 4, 10, 11, 12, 13] (by decide +kernel) (by decide +kernel)
set_option maxRecDepth 20000 in
theorem gX1_command_X1_unsigned : GoodIn wsX1_command (wsV RX1 17 RX1 yX1_unsigned wsX1_unsigned) := goodIn_app (goodIn_of _ (by decide +kernel)) ggX1_command_X1_unsigned
theorem dX1_command_0 : decode cX1_command 0 = .ok (.aload_n 0, 1) := by decide +kernel
theorem dX1_command_1 : decode cX1_command 1 = .ok (.iconst 1, 1) := by decide +kernel
theorem dX1_command_2 : decode cX1_command 2 = .ok (.invokevirtual 17, 3) := by decide +kernel
theorem dX1_command_5 : decode cX1_command 5 = .ok (.ireturn, 1) := by decide +kernel
set_option maxRecDepth 20000 in
theorem ggX1_code_X1_unsigned : GoodIn wsX1_code wsX1_unsigned := goodIn_r _ [6, 7, 8, 9, 10, 5, 11, 12, 13, 14] (by decide +kernel) (by decide +kernel)
set_option maxRecDepth 20000 in
theorem gX1_code_X1_unsigned : GoodIn wsX1_code (wsV RX1 17 RX1 yX1_unsigned wsX1_unsigned) := goodIn_app (goodIn_of _ (by decide +kernel)) ggX1_code_X1_unsigned
theorem dX1_code_0 : decode cX1_code 0 = .ok (.lconst 0, 1) := by decide +kernel
theorem dX1_code_1 : decode cX1_code 1 = .ok (.lstore_n 1, 1) := by decide +kernel
theorem dX1_code_2 : decode cX1_code 2 = .ok (.iconst 2, 1) := by decide +kernel
theorem dX1_code_3 : decode cX1_code 3 = .ok (.istore_n 3, 1) := by decide +kernel
theorem dX1_code_4 : decode cX1_code 4 = .ok (.iload_n 3, 1) := by decide +kernel
theorem dX1_code_5 : decode cX1_code 5 = .ok (.iconst 5, 1) := by decide +kernel
theorem dX1_code_6 : decode cX1_code 6 = .ok (.if_icmp .gt 22, 3) := by decide +kernel
theorem dX1_code_9 : decode cX1_code 9 = .ok (.lload_n 1, 1) := by decide +kernel
theorem dX1_code_10 : decode cX1_code 10 = .ok (.ldc2_w 21, 3) := by decide +kernel
theorem dX1_code_13 : decode cX1_code 13 = .ok (.lmul, 1) := by decide +kernel
theorem dX1_code_14 : decode cX1_code 14 = .ok (.aload_n 0, 1) := by decide +kernel
theorem dX1_code_15 : decode cX1_code 15 = .ok (.iload_n 3, 1) := by decide +kernel
theorem dX1_code_16 : decode cX1_code 16 = .ok (.invokevirtual 17, 3) := by decide +kernel
theorem dX1_code_19 : decode cX1_code 19 = .ok (.i2l, 1) := by decide +kernel
theorem dX1_code_20 : decode cX1_code 20 = .ok (.ladd, 1) := by decide +kernel
theorem dX1_code_21 : decode cX1_code 21 = .ok (.lstore_n 1, 1) := by decide +kernel
theorem dX1_code_22 : decode cX1_code 22 = .ok (.iinc 3 1, 3) := by decide +kernel
theorem dX1_code_25 : decode cX1_code 25 = .ok (.goto (-21), 3) := by decide +kernel
theorem dX1_code_28 : decode cX1_code 28 = .ok (.lload_n 1, 1) := by decide +kernel
theorem dX1_code_29 : decode cX1_code 29 = .ok (.lreturn, 1) := by decide +kernel
set_option maxRecDepth 20000 in
theorem ggX1_flags_X1_unsigned : GoodIn wsX1_flags wsX1_unsigned := goodIn_r _ [5, 6, 7, 8, 9, 4, 10, 11, 12, 13] (by decide +kernel) (by decide +kernel)
set_option maxRecDepth 20000 in
theorem gX1_flags_X1_unsigned : GoodIn wsX1_flags (wsV RX1 17 RX1 yX1_unsigned wsX1_unsigned) := goodIn_app (goodIn_of _ (by decide +kernel)) ggX1_flags_X1_unsigned
theorem dX1_flags_0 : decode cX1_flags 0 = .ok (.aload_n 0, 1) := by decide +kernel
theorem dX1_flags_1 : decode cX1_flags 1 = .ok (.bipush 6, 2) := by decide +kernel
theorem dX1_flags_3 : decode cX1_flags 3 = .ok (.invokevirtual 17, 3) := by decide +kernel
theorem dX1_flags_6 : decode cX1_flags 6 = .ok (.ireturn, 1) := by decide +kernel
set_option maxRecDepth 20000 in
theorem ggX1_unsigned_X1_has : GoodIn wsX1_unsigned wsX1_has := goodIn_r _ [6, 7, 1, 8, 9] (by decide +kernel) (by decide +kernel)
set_option maxRecDepth 20000 in
theorem gX1_unsigned_X1_has : GoodIn wsX1_unsigned (wsV RX1 23 RX1 yX1_has wsX1_has) := goodIn_app (goodIn_of _ (by decide +kernel)) ggX1_unsigned_X1_has
theorem dX1_unsigned_0 : decode cX1_unsigned 0 = .ok (.aload_n 0, 1) := by decide +kernel
theorem dX1_unsigned_1 : decode cX1_unsigned 1 = .ok (.iload_n 1, 1) := by decide +kernel
theorem dX1_unsigned_2 : decode cX1_unsigned 2 = .ok (.invokevirtual 23, 3) := by decide +kernel
theorem dX1_unsigned_5 : decode cX1_unsigned 5 = .ok (.ifCond .eq 16, 3) := by decide +kernel
theorem dX1_unsigned_8 : decode cX1_unsigned 8 = .ok (.aload_n 0, 1) := by decide +kernel
theorem dX1_unsigned_9 : decode cX1_unsigned 9 = .ok (.getfield 9, 3) := by decide +kernel
theorem dX1_unsigned_12 : decode cX1_unsigned 12 = .ok (.iload_n 1, 1) := by decide +kernel
theorem dX1_unsigned_13 : decode cX1_unsigned 13 = .ok (.baload, 1) := by decide +kernel
theorem dX1_unsigned_14 : decode cX1_unsigned 14 = .ok (.sipush 255, 3) := by decide +kernel
theorem dX1_unsigned_17 : decode cX1_unsigned 17 = .ok (.iand, 1) := by decide +kernel
theorem dX1_unsigned_18 : decode cX1_unsigned 18 = .ok (.goto 4, 3) := by decide +kernel
theorem dX1_unsigned_21 : decode cX1_unsigned 21 = .ok (.iconst 0, 1) := by decide +kernel
theorem dX1_unsigned_22 : decode cX1_unsigned 22 = .ok (.ireturn, 1) := by decide +kernel
theorem dX2_init_0 : decode cX2_init 0 = .ok (.aload_n 0, 1) := by decide +kernel
theorem dX2_init_1 : decode cX2_init 1 = .ok (.invokespecial 3, 3) := by decide +kernel
theorem dX2_init_4 : decode cX2_init 4 = .ok (.aload_n 0, 1) := by decide +kernel
theorem dX2_init_5 : decode cX2_init 5 = .ok (.lload_n 1, 1) := by decide +kernel
theorem dX2_init_6 : decode cX2_init 6 = .ok (.putfield 9, 3) := by decide +kernel
theorem dX2_init_9 : decode cX2_init 9 = .ok (.aload_n 0, 1) := by decide +kernel
theorem dX2_init_10 : decode cX2_init 10 = .ok (.iload_n 3, 1) := by decide +kernel
theorem dX2_init_11 : decode cX2_init 11 = .ok (.putfield 15, 3) := by decide +kernel
theorem dX2_init_14 : decode cX2_init 14 = .ok (.aload_n 0, 1) := by decide +kernel
theorem dX2_init_15 : decode cX2_init 15 = .ok (.iconst (-1), 1) := by decide +kernel
theorem dX2_init_16 : decode cX2_init 16 = .ok (.putfield 19, 3) := by decide +kernel
theorem dX2_init_19 : decode cX2_init 19 = .ok (.aload_n 0, 1) := by decide +kernel
theorem dX2_init_20 : decode cX2_init 20 = .ok (.iload 4, 2) := by decide +kernel
theorem dX2_init_22 : decode cX2_init 22 = .ok (.putfield 22, 3) := by decide +kernel
theorem dX2_init_25 : decode cX2_init 25 = .ok (.return_, 1) := by decide +kernel
theorem dX2_isAtHand_0 : decode cX2_isAtHand 0 = .ok (.aload_n 0, 1) := by decide +kernel
theorem dX2_isAtHand_1 : decode cX2_isAtHand 1 = .ok (.getfield 26, 3) := by decide +kernel
theorem dX2_isAtHand_4 : decode cX2_isAtHand 4 = .ok (.ifCond .ne 10, 3) := by decide +kernel
theorem dX2_isAtHand_7 : decode cX2_isAtHand 7 = .ok (.aload_n 0, 1) := by decide +kernel
theorem dX2_isAtHand_8 : decode cX2_isAtHand 8 = .ok (.getfield 29, 3) := by decide +kernel
theorem dX2_isAtHand_11 : decode cX2_isAtHand 11 = .ok (.ifCond .eq 7, 3) := by decide +kernel
theorem dX2_isAtHand_14 : decode cX2_isAtHand 14 = .ok (.iconst 1, 1) := by decide +kernel
theorem dX2_isAtHand_15 : decode cX2_isAtHand 15 = .ok (.goto 4, 3) := by decide +kernel
theorem dX2_isAtHand_18 : decode cX2_isAtHand 18 = .ok (.iconst 0, 1) := by decide +kernel
theorem dX2_isAtHand_19 : decode cX2_isAtHand 19 = .ok (.ireturn, 1) := by decide +kernel
set_option maxRecDepth 20000 in
theorem ggX2_mayTeach_X2_isAtHand : GoodIn wsX2_mayTeach wsX2_isAtHand := goodIn_r _ [6, 7, 8, 9, 10, 11, 12, 13, 14, 15] (by decide +kernel) (by decide +kernel)
set_option maxRecDepth 20000 in
theorem gX2_mayTeach_X2_isAtHand : GoodIn wsX2_mayTeach (wsV RX2 32 RX2 yX2_isAtHand wsX2_isAtHand) := goodIn_app (goodIn_of _ (by decide +kernel)) ggX2_mayTeach_X2_isAtHand
theorem dX2_mayTeach_0 : decode cX2_mayTeach 0 = .ok (.aload_n 0, 1) := by decide +kernel
theorem dX2_mayTeach_1 : decode cX2_mayTeach 1 = .ok (.getfield 22, 3) := by decide +kernel
theorem dX2_mayTeach_4 : decode cX2_mayTeach 4 = .ok (.ifCond .eq 14, 3) := by decide +kernel
theorem dX2_mayTeach_7 : decode cX2_mayTeach 7 = .ok (.aload_n 0, 1) := by decide +kernel
theorem dX2_mayTeach_8 : decode cX2_mayTeach 8 = .ok (.invokevirtual 32, 3) := by decide +kernel
theorem dX2_mayTeach_11 : decode cX2_mayTeach 11 = .ok (.ifCond .eq 7, 3) := by decide +kernel
theorem dX2_mayTeach_14 : decode cX2_mayTeach 14 = .ok (.iconst 1, 1) := by decide +kernel
theorem dX2_mayTeach_15 : decode cX2_mayTeach 15 = .ok (.goto 4, 3) := by decide +kernel
theorem dX2_mayTeach_18 : decode cX2_mayTeach 18 = .ok (.iconst 0, 1) := by decide +kernel
theorem dX2_mayTeach_19 : decode cX2_mayTeach 19 = .ok (.ireturn, 1) := by decide +kernel
theorem dX2_roll_0 : decode cX2_roll 0 = .ok (.iload_n 1, 1) := by decide +kernel
theorem dX2_roll_1 : decode cX2_roll 1 = .ok (.aload_n 0, 1) := by decide +kernel
theorem dX2_roll_2 : decode cX2_roll 2 = .ok (.getfield 15, 3) := by decide +kernel
theorem dX2_roll_5 : decode cX2_roll 5 = .ok (.isub, 1) := by decide +kernel
theorem dX2_roll_6 : decode cX2_roll 6 = .ok (.ldc 36, 2) := by decide +kernel
theorem dX2_roll_8 : decode cX2_roll 8 = .ok (.iand, 1) := by decide +kernel
theorem dX2_roll_9 : decode cX2_roll 9 = .ok (.istore_n 3, 1) := by decide +kernel
theorem dX2_roll_10 : decode cX2_roll 10 = .ok (.iload_n 3, 1) := by decide +kernel
theorem dX2_roll_11 : decode cX2_roll 11 = .ok (.ifCond .eq 9, 3) := by decide +kernel
theorem dX2_roll_14 : decode cX2_roll 14 = .ok (.iload_n 3, 1) := by decide +kernel
theorem dX2_roll_15 : decode cX2_roll 15 = .ok (.ldc 37, 2) := by decide +kernel
theorem dX2_roll_17 : decode cX2_roll 17 = .ok (.if_icmp .le 10, 3) := by decide +kernel
theorem dX2_roll_20 : decode cX2_roll 20 = .ok (.aload_n 0, 1) := by decide +kernel
theorem dX2_roll_21 : decode cX2_roll 21 = .ok (.iconst (-1), 1) := by decide +kernel
theorem dX2_roll_22 : decode cX2_roll 22 = .ok (.putfield 19, 3) := by decide +kernel
theorem dX2_roll_25 : decode cX2_roll 25 = .ok (.iconst 0, 1) := by decide +kernel
theorem dX2_roll_26 : decode cX2_roll 26 = .ok (.ireturn, 1) := by decide +kernel
theorem dX2_roll_27 : decode cX2_roll 27 = .ok (.iload_n 3, 1) := by decide +kernel
theorem dX2_roll_28 : decode cX2_roll 28 = .ok (.iload_n 2, 1) := by decide +kernel
theorem dX2_roll_29 : decode cX2_roll 29 = .ok (.if_icmp .le 23, 3) := by decide +kernel
theorem dX2_roll_32 : decode cX2_roll 32 = .ok (.iload_n 1, 1) := by decide +kernel
theorem dX2_roll_33 : decode cX2_roll 33 = .ok (.aload_n 0, 1) := by decide +kernel
theorem dX2_roll_34 : decode cX2_roll 34 = .ok (.getfield 19, 3) := by decide +kernel
theorem dX2_roll_37 : decode cX2_roll 37 = .ok (.if_icmp .eq 15, 3) := by decide +kernel
theorem dX2_roll_40 : decode cX2_roll 40 = .ok (.aload_n 0, 1) := by decide +kernel
theorem dX2_roll_41 : decode cX2_roll 41 = .ok (.iload_n 1, 1) := by decide +kernel
theorem dX2_roll_42 : decode cX2_roll 42 = .ok (.iconst 1, 1) := by decide +kernel
theorem dX2_roll_43 : decode cX2_roll 43 = .ok (.iadd, 1) := by decide +kernel
theorem dX2_roll_44 : decode cX2_roll 44 = .ok (.ldc 36, 2) := by decide +kernel
theorem dX2_roll_46 : decode cX2_roll 46 = .ok (.iand, 1) := by decide +kernel
theorem dX2_roll_47 : decode cX2_roll 47 = .ok (.putfield 19, 3) := by decide +kernel
theorem dX2_roll_50 : decode cX2_roll 50 = .ok (.iconst 2, 1) := by decide +kernel
theorem dX2_roll_51 : decode cX2_roll 51 = .ok (.ireturn, 1) := by decide +kernel
theorem dX2_roll_52 : decode cX2_roll 52 = .ok (.aload_n 0, 1) := by decide +kernel
theorem dX2_roll_53 : decode cX2_roll 53 = .ok (.iload_n 1, 1) := by decide +kernel
theorem dX2_roll_54 : decode cX2_roll 54 = .ok (.putfield 15, 3) := by decide +kernel
theorem dX2_roll_57 : decode cX2_roll 57 = .ok (.aload_n 0, 1) := by decide +kernel
theorem dX2_roll_58 : decode cX2_roll 58 = .ok (.iconst (-1), 1) := by decide +kernel
theorem dX2_roll_59 : decode cX2_roll 59 = .ok (.putfield 19, 3) := by decide +kernel
theorem dX2_roll_62 : decode cX2_roll 62 = .ok (.iconst 1, 1) := by decide +kernel
theorem dX2_roll_63 : decode cX2_roll 63 = .ok (.ireturn, 1) := by decide +kernel
set_option maxRecDepth 20000 in
theorem ggX2_sign_X2_part : GoodIn wsX2_sign wsX2_part := goodIn_r _ [5, 6, 7, 8, 9, 10, 11, 12, 13, 14] (by decide +kernel) (by decide +kernel)
set_option maxRecDepth 20000 in
theorem gX2_sign_X2_part : GoodIn wsX2_sign (wsV RX2 38 RX2 yX2_part wsX2_part) := goodIn_app (goodIn_of _ (by decide +kernel)) ggX2_sign_X2_part
theorem dX2_sign_0 : decode cX2_sign 0 = .ok (.aload_n 0, 1) := by decide +kernel
theorem dX2_sign_1 : decode cX2_sign 1 = .ok (.iconst 0, 1) := by decide +kernel
theorem dX2_sign_2 : decode cX2_sign 2 = .ok (.invokevirtual 38, 3) := by decide +kernel
theorem dX2_sign_5 : decode cX2_sign 5 = .ok (.aload_n 0, 1) := by decide +kernel
theorem dX2_sign_6 : decode cX2_sign 6 = .ok (.iconst 1, 1) := by decide +kernel
theorem dX2_sign_7 : decode cX2_sign 7 = .ok (.invokevirtual 38, 3) := by decide +kernel
theorem dX2_sign_10 : decode cX2_sign 10 = .ok (.ixor, 1) := by decide +kernel
theorem dX2_sign_11 : decode cX2_sign 11 = .ok (.aload_n 0, 1) := by decide +kernel
theorem dX2_sign_12 : decode cX2_sign 12 = .ok (.iconst 2, 1) := by decide +kernel
theorem dX2_sign_13 : decode cX2_sign 13 = .ok (.invokevirtual 38, 3) := by decide +kernel
theorem dX2_sign_16 : decode cX2_sign 16 = .ok (.ixor, 1) := by decide +kernel
theorem dX2_sign_17 : decode cX2_sign 17 = .ok (.aload_n 0, 1) := by decide +kernel
theorem dX2_sign_18 : decode cX2_sign 18 = .ok (.iconst 3, 1) := by decide +kernel
theorem dX2_sign_19 : decode cX2_sign 19 = .ok (.invokevirtual 38, 3) := by decide +kernel
theorem dX2_sign_22 : decode cX2_sign 22 = .ok (.ixor, 1) := by decide +kernel
theorem dX2_sign_23 : decode cX2_sign 23 = .ok (.ireturn, 1) := by decide +kernel
set_option maxRecDepth 20000 in
theorem ggX2_encipher_X2_mix : GoodIn wsX2_encipher wsX2_mix := goodIn_r _ [6, 7, 1, 8, 9, 10, 5, 11, 12, 17, 18, 19, 20, 21, 22, 23] (by decide +kernel) (by decide +kernel)
set_option maxRecDepth 20000 in
theorem gX2_encipher_X2_mix : GoodIn wsX2_encipher (wsV RX2 42 RX2 yX2_mix wsX2_mix) := goodIn_app (goodIn_of _ (by decide +kernel)) ggX2_encipher_X2_mix
set_option maxRecDepth 20000 in
theorem ggX2_encipher_X2_joined : GoodIn wsX2_encipher wsX2_joined := goodIn_r _ [15, 16] (by decide +kernel) (by decide +kernel)
set_option maxRecDepth 20000 in
theorem gX2_encipher_X2_joined : GoodIn wsX2_encipher (va_wsS RX2 46 yX2_joined wsX2_joined) := goodIn_app (goodIn_of _ (by decide +kernel)) ggX2_encipher_X2_joined
theorem dX2_encipher_0 : decode cX2_encipher 0 = .ok (.lload_n 1, 1) := by decide +kernel
theorem dX2_encipher_1 : decode cX2_encipher 1 = .ok (.bipush 16, 2) := by decide +kernel
theorem dX2_encipher_3 : decode cX2_encipher 3 = .ok (.lushr, 1) := by decide +kernel
theorem dX2_encipher_4 : decode cX2_encipher 4 = .ok (.l2i, 1) := by decide +kernel
theorem dX2_encipher_5 : decode cX2_encipher 5 = .ok (.ldc 36, 2) := by decide +kernel
theorem dX2_encipher_7 : decode cX2_encipher 7 = .ok (.iand, 1) := by decide +kernel
theorem dX2_encipher_8 : decode cX2_encipher 8 = .ok (.istore_n 3, 1) := by decide +kernel
theorem dX2_encipher_9 : decode cX2_encipher 9 = .ok (.lload_n 1, 1) := by decide +kernel
theorem dX2_encipher_10 : decode cX2_encipher 10 = .ok (.l2i, 1) := by decide +kernel
theorem dX2_encipher_11 : decode cX2_encipher 11 = .ok (.ldc 36, 2) := by decide +kernel
theorem dX2_encipher_13 : decode cX2_encipher 13 = .ok (.iand, 1) := by decide +kernel
theorem dX2_encipher_14 : decode cX2_encipher 14 = .ok (.istore 4, 2) := by decide +kernel
theorem dX2_encipher_16 : decode cX2_encipher 16 = .ok (.iconst 0, 1) := by decide +kernel
theorem dX2_encipher_17 : decode cX2_encipher 17 = .ok (.istore 5, 2) := by decide +kernel
theorem dX2_encipher_19 : decode cX2_encipher 19 = .ok (.iload 5, 2) := by decide +kernel
theorem dX2_encipher_21 : decode cX2_encipher 21 = .ok (.bipush 16, 2) := by decide +kernel
theorem dX2_encipher_23 : decode cX2_encipher 23 = .ok (.if_icmp .ge 28, 3) := by decide +kernel
theorem dX2_encipher_26 : decode cX2_encipher 26 = .ok (.iload_n 3, 1) := by decide +kernel
theorem dX2_encipher_27 : decode cX2_encipher 27 = .ok (.aload_n 0, 1) := by decide +kernel
theorem dX2_encipher_28 : decode cX2_encipher 28 = .ok (.iload 4, 2) := by decide +kernel
theorem dX2_encipher_30 : decode cX2_encipher 30 = .ok (.iload 5, 2) := by decide +kernel
theorem dX2_encipher_32 : decode cX2_encipher 32 = .ok (.invokevirtual 42, 3) := by decide +kernel
theorem dX2_encipher_35 : decode cX2_encipher 35 = .ok (.ixor, 1) := by decide +kernel
theorem dX2_encipher_36 : decode cX2_encipher 36 = .ok (.istore 6, 2) := by decide +kernel
theorem dX2_encipher_38 : decode cX2_encipher 38 = .ok (.iload 4, 2) := by decide +kernel
theorem dX2_encipher_40 : decode cX2_encipher 40 = .ok (.istore_n 3, 1) := by decide +kernel
theorem dX2_encipher_41 : decode cX2_encipher 41 = .ok (.iload 6, 2) := by decide +kernel
theorem dX2_encipher_43 : decode cX2_encipher 43 = .ok (.istore 4, 2) := by decide +kernel
theorem dX2_encipher_45 : decode cX2_encipher 45 = .ok (.iinc 5 1, 3) := by decide +kernel
theorem dX2_encipher_48 : decode cX2_encipher 48 = .ok (.goto (-29), 3) := by decide +kernel
theorem dX2_encipher_51 : decode cX2_encipher 51 = .ok (.iload_n 3, 1) := by decide +kernel
theorem dX2_encipher_52 : decode cX2_encipher 52 = .ok (.iload 4, 2) := by decide +kernel
theorem dX2_encipher_54 : decode cX2_encipher 54 = .ok (.invokestatic 46, 3) := by decide +kernel
theorem dX2_encipher_57 : decode cX2_encipher 57 = .ok (.lreturn, 1) := by decide +kernel
set_option maxRecDepth 20000 in
theorem ggX2_decipher_X2_mix : GoodIn wsX2_decipher wsX2_mix := goodIn_r _ [6, 7, 1, 8, 9, 10, 5, 11, 12, 17, 18, 19, 20, 21, 22, 23] (by decide +kernel) (by decide +kernel)
set_option maxRecDepth 20000 in
theorem gX2_decipher_X2_mix : GoodIn wsX2_decipher (wsV RX2 42 RX2 yX2_mix wsX2_mix) := goodIn_app (goodIn_of _ (by decide +kernel)) ggX2_decipher_X2_mix
set_option maxRecDepth 20000 in
theorem ggX2_decipher_X2_joined : GoodIn wsX2_decipher wsX2_joined := goodIn_r _ [15, 16] (by decide +kernel) (by decide +kernel)
set_option maxRecDepth 20000 in
theorem gX2_decipher_X2_joined : GoodIn wsX2_decipher (va_wsS RX2 46 yX2_joined wsX2_joined) := goodIn_app (goodIn_of _ (by decide +kernel)) ggX2_decipher_X2_joined
theorem dX2_decipher_0 : decode cX2_decipher 0 = .ok (.lload_n 1, 1) := by decide +kernel
theorem dX2_decipher_1 : decode cX2_decipher 1 = .ok (.bipush 16, 2) := by decide +kernel
theorem dX2_decipher_3 : decode cX2_decipher 3 = .ok (.lushr, 1) := by decide +kernel
theorem dX2_decipher_4 : decode cX2_decipher 4 = .ok (.l2i, 1) := by decide +kernel
theorem dX2_decipher_5 : decode cX2_decipher 5 = .ok (.ldc 36, 2) := by decide +kernel
theorem dX2_decipher_7 : decode cX2_decipher 7 = .ok (.iand, 1) := by decide +kernel
theorem dX2_decipher_8 : decode cX2_decipher 8 = .ok (.istore_n 3, 1) := by decide +kernel
theorem dX2_decipher_9 : decode cX2_decipher 9 = .ok (.lload_n 1, 1) := by decide +kernel
theorem dX2_decipher_10 : decode cX2_decipher 10 = .ok (.l2i, 1) := by decide +kernel
theorem dX2_decipher_11 : decode cX2_decipher 11 = .ok (.ldc 36, 2) := by decide +kernel
theorem dX2_decipher_13 : decode cX2_decipher 13 = .ok (.iand, 1) := by decide +kernel
theorem dX2_decipher_14 : decode cX2_decipher 14 = .ok (.istore 4, 2) := by decide +kernel
theorem dX2_decipher_16 : decode cX2_decipher 16 = .ok (.bipush 15, 2) := by decide +kernel
theorem dX2_decipher_18 : decode cX2_decipher 18 = .ok (.istore 5, 2) := by decide +kernel
theorem dX2_decipher_20 : decode cX2_decipher 20 = .ok (.iload 5, 2) := by decide +kernel
theorem dX2_decipher_22 : decode cX2_decipher 22 = .ok (.ifCond .lt 27, 3) := by decide +kernel
theorem dX2_decipher_25 : decode cX2_decipher 25 = .ok (.iload 4, 2) := by decide +kernel
theorem dX2_decipher_27 : decode cX2_decipher 27 = .ok (.aload_n 0, 1) := by decide +kernel
theorem dX2_decipher_28 : decode cX2_decipher 28 = .ok (.iload_n 3, 1) := by decide +kernel
theorem dX2_decipher_29 : decode cX2_decipher 29 = .ok (.iload 5, 2) := by decide +kernel
theorem dX2_decipher_31 : decode cX2_decipher 31 = .ok (.invokevirtual 42, 3) := by decide +kernel
theorem dX2_decipher_34 : decode cX2_decipher 34 = .ok (.ixor, 1) := by decide +kernel
theorem dX2_decipher_35 : decode cX2_decipher 35 = .ok (.istore 6, 2) := by decide +kernel
theorem dX2_decipher_37 : decode cX2_decipher 37 = .ok (.iload_n 3, 1) := by decide +kernel
theorem dX2_decipher_38 : decode cX2_decipher 38 = .ok (.istore 4, 2) := by decide +kernel
theorem dX2_decipher_40 : decode cX2_decipher 40 = .ok (.iload 6, 2) := by decide +kernel
theorem dX2_decipher_42 : decode cX2_decipher 42 = .ok (.istore_n 3, 1) := by decide +kernel
theorem dX2_decipher_43 : decode cX2_decipher 43 = .ok (.iinc 5 (-1), 3) := by decide +kernel
theorem dX2_decipher_46 : decode cX2_decipher 46 = .ok (.goto (-26), 3) := by decide +kernel
theorem dX2_decipher_49 : decode cX2_decipher 49 = .ok (.iload_n 3, 1) := by decide +kernel
theorem dX2_decipher_50 : decode cX2_decipher 50 = .ok (.iload 4, 2) := by decide +kernel
theorem dX2_decipher_52 : decode cX2_decipher 52 = .ok (.invokestatic 46, 3) := by decide +kernel
theorem dX2_decipher_55 : decode cX2_decipher 55 = .ok (.lreturn, 1) := by decide +kernel
set_option maxRecDepth 20000 in
theorem ggX2_mix_X2_part : GoodIn wsX2_mix wsX2_part := goodIn_r _ [7, 8, 2, 9, 10, 11, 12, 13, 14, 15] (by decide +kernel) (by decide +kernel)
set_option maxRecDepth 20000 in
theorem gX2_mix_X2_part : GoodIn wsX2_mix (wsV RX2 38 RX2 yX2_part wsX2_part) := goodIn_app (goodIn_of _ (by decide +kernel)) ggX2_mix_X2_part
theorem dX2_mix_0 : decode cX2_mix 0 = .ok (.aload_n 0, 1) := by decide +kernel
theorem dX2_mix_1 : decode cX2_mix 1 = .ok (.iload_n 2, 1) := by decide +kernel
theorem dX2_mix_2 : decode cX2_mix 2 = .ok (.invokevirtual 38, 3) := by decide +kernel
theorem dX2_mix_5 : decode cX2_mix 5 = .ok (.istore_n 3, 1) := by decide +kernel
theorem dX2_mix_6 : decode cX2_mix 6 = .ok (.iload_n 1, 1) := by decide +kernel
theorem dX2_mix_7 : decode cX2_mix 7 = .ok (.ldc 50, 2) := by decide +kernel
theorem dX2_mix_9 : decode cX2_mix 9 = .ok (.imul, 1) := by decide +kernel
theorem dX2_mix_10 : decode cX2_mix 10 = .ok (.iload_n 3, 1) := by decide +kernel
theorem dX2_mix_11 : decode cX2_mix 11 = .ok (.iconst 2, 1) := by decide +kernel
theorem dX2_mix_12 : decode cX2_mix 12 = .ok (.iload_n 2, 1) := by decide +kernel
theorem dX2_mix_13 : decode cX2_mix 13 = .ok (.imul, 1) := by decide +kernel
theorem dX2_mix_14 : decode cX2_mix 14 = .ok (.iconst 1, 1) := by decide +kernel
theorem dX2_mix_15 : decode cX2_mix 15 = .ok (.iadd, 1) := by decide +kernel
theorem dX2_mix_16 : decode cX2_mix 16 = .ok (.imul, 1) := by decide +kernel
theorem dX2_mix_17 : decode cX2_mix 17 = .ok (.iadd, 1) := by decide +kernel
theorem dX2_mix_18 : decode cX2_mix 18 = .ok (.iload_n 1, 1) := by decide +kernel
theorem dX2_mix_19 : decode cX2_mix 19 = .ok (.bipush 32, 2) := by decide +kernel
theorem dX2_mix_21 : decode cX2_mix 21 = .ok (.idiv, 1) := by decide +kernel
theorem dX2_mix_22 : decode cX2_mix 22 = .ok (.ixor, 1) := by decide +kernel
theorem dX2_mix_23 : decode cX2_mix 23 = .ok (.iload_n 3, 1) := by decide +kernel
theorem dX2_mix_24 : decode cX2_mix 24 = .ok (.bipush 8, 2) := by decide +kernel
theorem dX2_mix_26 : decode cX2_mix 26 = .ok (.imul, 1) := by decide +kernel
theorem dX2_mix_27 : decode cX2_mix 27 = .ok (.ixor, 1) := by decide +kernel
theorem dX2_mix_28 : decode cX2_mix 28 = .ok (.istore 4, 2) := by decide +kernel
theorem dX2_mix_30 : decode cX2_mix 30 = .ok (.iload 4, 2) := by decide +kernel
theorem dX2_mix_32 : decode cX2_mix 32 = .ok (.ldc 36, 2) := by decide +kernel
theorem dX2_mix_34 : decode cX2_mix 34 = .ok (.iand, 1) := by decide +kernel
theorem dX2_mix_35 : decode cX2_mix 35 = .ok (.ireturn, 1) := by decide +kernel
theorem dX2_part_0 : decode cX2_part 0 = .ok (.aload_n 0, 1) := by decide +kernel
theorem dX2_part_1 : decode cX2_part 1 = .ok (.getfield 9, 3) := by decide +kernel
theorem dX2_part_4 : decode cX2_part 4 = .ok (.bipush 16, 2) := by decide +kernel
theorem dX2_part_6 : decode cX2_part 6 = .ok (.iload_n 1, 1) := by decide +kernel
theorem dX2_part_7 : decode cX2_part 7 = .ok (.iconst 3, 1) := by decide +kernel
theorem dX2_part_8 : decode cX2_part 8 = .ok (.iand, 1) := by decide +kernel
theorem dX2_part_9 : decode cX2_part 9 = .ok (.imul, 1) := by decide +kernel
theorem dX2_part_10 : decode cX2_part 10 = .ok (.lushr, 1) := by decide +kernel
theorem dX2_part_11 : decode cX2_part 11 = .ok (.l2i, 1) := by decide +kernel
theorem dX2_part_12 : decode cX2_part 12 = .ok (.ldc 36, 2) := by decide +kernel
theorem dX2_part_14 : decode cX2_part 14 = .ok (.iand, 1) := by decide +kernel
theorem dX2_part_15 : decode cX2_part 15 = .ok (.ireturn, 1) := by decide +kernel
theorem dX2_joined_0 : decode cX2_joined 0 = .ok (.iload_n 0, 1) := by decide +kernel
theorem dX2_joined_1 : decode cX2_joined 1 = .ok (.i2l, 1) := by decide +kernel
theorem dX2_joined_2 : decode cX2_joined 2 = .ok (.ldc2_w 51, 3) := by decide +kernel
theorem dX2_joined_5 : decode cX2_joined 5 = .ok (.lmul, 1) := by decide +kernel
theorem dX2_joined_6 : decode cX2_joined 6 = .ok (.iload_n 1, 1) := by decide +kernel
theorem dX2_joined_7 : decode cX2_joined 7 = .ok (.i2l, 1) := by decide +kernel
theorem dX2_joined_8 : decode cX2_joined 8 = .ok (.ladd, 1) := by decide +kernel
theorem dX2_joined_9 : decode cX2_joined 9 = .ok (.lreturn, 1) := by decide +kernel
set_option maxRecDepth 20000 in
theorem ggX3_init_X1_init : GoodIn wsX3_init wsX1_init := goodIn_r _ [18, 19, 2, 3, 20, 21, 37, 38] (by decide +kernel) (by decide +kernel)
set_option maxRecDepth 20000 in
theorem gX3_init_X1_init : GoodIn wsX3_init (wsX1_init) := ggX3_init_X1_init
set_option maxRecDepth 20000 in
theorem ggX3_init_X0_init : GoodIn wsX3_init wsX0_init := goodIn_r _ [24, 25, 2, 3, 26, 27, 39, 40, 41] (by decide +kernel) (by decide +kernel)
set_option maxRecDepth 20000 in
theorem gX3_init_X0_init : GoodIn wsX3_init (wsX0_init) := ggX3_init_X0_init
theorem dX3_init_0 : decode cX3_init 0 = .ok (.aload_n 0, 1) := by decide +kernel
theorem dX3_init_1 : decode cX3_init 1 = .ok (.invokespecial 1, 3) := by decide +kernel
theorem dX3_init_4 : decode cX3_init 4 = .ok (.aload_n 0, 1) := by decide +kernel
theorem dX3_init_5 : decode cX3_init 5 = .ok (.iload_n 1, 1) := by decide +kernel
theorem dX3_init_6 : decode cX3_init 6 = .ok (.iconst 1, 1) := by decide +kernel
theorem dX3_init_7 : decode cX3_init 7 = .ok (.if_icmp .lt 14, 3) := by decide +kernel
theorem dX3_init_10 : decode cX3_init 10 = .ok (.iload_n 1, 1) := by decide +kernel
theorem dX3_init_11 : decode cX3_init 11 = .ok (.sipush 32767, 3) := by decide +kernel
theorem dX3_init_14 : decode cX3_init 14 = .ok (.if_icmp .gt 7, 3) := by decide +kernel
theorem dX3_init_17 : decode cX3_init 17 = .ok (.iload_n 1, 1) := by decide +kernel
theorem dX3_init_18 : decode cX3_init 18 = .ok (.goto 5, 3) := by decide +kernel
theorem dX3_init_21 : decode cX3_init 21 = .ok (.bipush 16, 2) := by decide +kernel
theorem dX3_init_23 : decode cX3_init 23 = .ok (.putfield 9, 3) := by decide +kernel
theorem dX3_init_26 : decode cX3_init 26 = .ok (.aload_n 0, 1) := by decide +kernel
theorem dX3_init_27 : decode cX3_init 27 = .ok (.bipush 8, 2) := by decide +kernel
theorem dX3_init_29 : decode cX3_init 29 = .ok (.anewarray 13, 3) := by decide +kernel
theorem dX3_init_32 : decode cX3_init 32 = .ok (.putfield 15, 3) := by decide +kernel
theorem dX3_init_35 : decode cX3_init 35 = .ok (.aload_n 0, 1) := by decide +kernel
theorem dX3_init_36 : decode cX3_init 36 = .ok (.new 19, 3) := by decide +kernel
theorem dX3_init_39 : decode cX3_init 39 = .ok (.dup, 1) := by decide +kernel
theorem dX3_init_40 : decode cX3_init 40 = .ok (.invokespecial 21, 3) := by decide +kernel
theorem dX3_init_43 : decode cX3_init 43 = .ok (.putfield 22, 3) := by decide +kernel
theorem dX3_init_46 : decode cX3_init 46 = .ok (.aload_n 0, 1) := by decide +kernel
theorem dX3_init_47 : decode cX3_init 47 = .ok (.new 19, 3) := by decide +kernel
theorem dX3_init_50 : decode cX3_init 50 = .ok (.dup, 1) := by decide +kernel
theorem dX3_init_51 : decode cX3_init 51 = .ok (.invokespecial 21, 3) := by decide +kernel
theorem dX3_init_54 : decode cX3_init 54 = .ok (.putfield 26, 3) := by decide +kernel
theorem dX3_init_57 : decode cX3_init 57 = .ok (.aload_n 0, 1) := by decide +kernel
theorem dX3_init_58 : decode cX3_init 58 = .ok (.new 29, 3) := by decide +kernel
theorem dX3_init_61 : decode cX3_init 61 = .ok (.dup, 1) := by decide +kernel
theorem dX3_init_62 : decode cX3_init 62 = .ok (.invokespecial 31, 3) := by decide +kernel
theorem dX3_init_65 : decode cX3_init 65 = .ok (.putfield 32, 3) := by decide +kernel
theorem dX3_init_68 : decode cX3_init 68 = .ok (.return_, 1) := by decide +kernel
set_option maxRecDepth 20000 in
theorem ggX3_key_X3_isSecretOfAKey : GoodIn wsX3_key wsX3_isSecretOfAKey := goodIn_r _ [11, 2, 12, 13, 14, 15, 10, 16, 3, 27, 28, 29, 30, 31, 32, 33, 34, 35, 36, 37, 38, 39, 40, 41, 42] (by decide +kernel) (by decide +kernel)
set_option maxRecDepth 20000 in
theorem gX3_key_X3_isSecretOfAKey : GoodIn wsX3_key (wsV RX3 38 RX3 yX3_isSecretOfAKey wsX3_isSecretOfAKey) := goodIn_app (goodIn_of _ (by decide +kernel)) ggX3_key_X3_isSecretOfAKey
set_option maxRecDepth 20000 in
theorem ggX3_key_X2_init : GoodIn wsX3_key wsX2_init := goodIn_r _ [19, 20, 21, 22, 23, 24, 25, 26, 36, 37, 38, 39, 40, 41, 42] (by decide +kernel) (by decide +kernel)
set_option maxRecDepth 20000 in
theorem gX3_key_X2_init : GoodIn wsX3_key (wsX2_init) := ggX3_key_X2_init
theorem dX3_key_0 : decode cX3_key 0 = .ok (.lload_n 3, 1) := by decide +kernel
theorem dX3_key_1 : decode cX3_key 1 = .ok (.lconst 0, 1) := by decide +kernel
theorem dX3_key_2 : decode cX3_key 2 = .ok (.lcmp, 1) := by decide +kernel
theorem dX3_key_3 : decode cX3_key 3 = .ok (.ifCond .lt 11, 3) := by decide +kernel
theorem dX3_key_6 : decode cX3_key 6 = .ok (.lload_n 3, 1) := by decide +kernel
theorem dX3_key_7 : decode cX3_key 7 = .ok (.ldc2_w 36, 3) := by decide +kernel
theorem dX3_key_10 : decode cX3_key 10 = .ok (.lcmp, 1) := by decide +kernel
theorem dX3_key_11 : decode cX3_key 11 = .ok (.ifCond .le 6, 3) := by decide +kernel
theorem dX3_key_14 : decode cX3_key 14 = .ok (.bipush (-2), 2) := by decide +kernel
theorem dX3_key_16 : decode cX3_key 16 = .ok (.ireturn, 1) := by decide +kernel
theorem dX3_key_17 : decode cX3_key 17 = .ok (.aload_n 0, 1) := by decide +kernel
theorem dX3_key_18 : decode cX3_key 18 = .ok (.lload_n 1, 1) := by decide +kernel
theorem dX3_key_19 : decode cX3_key 19 = .ok (.invokevirtual 38, 3) := by decide +kernel
theorem dX3_key_22 : decode cX3_key 22 = .ok (.ifCond .eq 6, 3) := by decide +kernel
theorem dX3_key_25 : decode cX3_key 25 = .ok (.bipush (-3), 2) := by decide +kernel
theorem dX3_key_27 : decode cX3_key 27 = .ok (.ireturn, 1) := by decide +kernel
theorem dX3_key_28 : decode cX3_key 28 = .ok (.aload_n 0, 1) := by decide +kernel
theorem dX3_key_29 : decode cX3_key 29 = .ok (.getfield 42, 3) := by decide +kernel
theorem dX3_key_32 : decode cX3_key 32 = .ok (.aload_n 0, 1) := by decide +kernel
theorem dX3_key_33 : decode cX3_key 33 = .ok (.getfield 15, 3) := by decide +kernel
theorem dX3_key_36 : decode cX3_key 36 = .ok (.arraylength, 1) := by decide +kernel
theorem dX3_key_37 : decode cX3_key 37 = .ok (.if_icmp .lt 6, 3) := by decide +kernel
theorem dX3_key_40 : decode cX3_key 40 = .ok (.bipush (-4), 2) := by decide +kernel
theorem dX3_key_42 : decode cX3_key 42 = .ok (.ireturn, 1) := by decide +kernel
theorem dX3_key_43 : decode cX3_key 43 = .ok (.aload_n 0, 1) := by decide +kernel
theorem dX3_key_44 : decode cX3_key 44 = .ok (.getfield 15, 3) := by decide +kernel
theorem dX3_key_47 : decode cX3_key 47 = .ok (.aload_n 0, 1) := by decide +kernel
theorem dX3_key_48 : decode cX3_key 48 = .ok (.getfield 42, 3) := by decide +kernel
theorem dX3_key_51 : decode cX3_key 51 = .ok (.new 13, 3) := by decide +kernel
theorem dX3_key_54 : decode cX3_key 54 = .ok (.dup, 1) := by decide +kernel
theorem dX3_key_55 : decode cX3_key 55 = .ok (.lload_n 1, 1) := by decide +kernel
theorem dX3_key_56 : decode cX3_key 56 = .ok (.lload_n 3, 1) := by decide +kernel
theorem dX3_key_57 : decode cX3_key 57 = .ok (.l2i, 1) := by decide +kernel
theorem dX3_key_58 : decode cX3_key 58 = .ok (.aload_n 0, 1) := by decide +kernel
theorem dX3_key_59 : decode cX3_key 59 = .ok (.getfield 42, 3) := by decide +kernel
theorem dX3_key_62 : decode cX3_key 62 = .ok (.iconst 2, 1) := by decide +kernel
theorem dX3_key_63 : decode cX3_key 63 = .ok (.if_icmp .ge 7, 3) := by decide +kernel
theorem dX3_key_66 : decode cX3_key 66 = .ok (.iconst 1, 1) := by decide +kernel
theorem dX3_key_67 : decode cX3_key 67 = .ok (.goto 4, 3) := by decide +kernel
theorem dX3_key_70 : decode cX3_key 70 = .ok (.iconst 0, 1) := by decide +kernel
theorem dX3_key_71 : decode cX3_key 71 = .ok (.invokespecial 45, 3) := by decide +kernel
theorem dX3_key_74 : decode cX3_key 74 = .ok (.aastore, 1) := by decide +kernel
theorem dX3_key_75 : decode cX3_key 75 = .ok (.aload_n 0, 1) := by decide +kernel
theorem dX3_key_76 : decode cX3_key 76 = .ok (.dup, 1) := by decide +kernel
theorem dX3_key_77 : decode cX3_key 77 = .ok (.getfield 42, 3) := by decide +kernel
theorem dX3_key_80 : decode cX3_key 80 = .ok (.iconst 1, 1) := by decide +kernel
theorem dX3_key_81 : decode cX3_key 81 = .ok (.iadd, 1) := by decide +kernel
theorem dX3_key_82 : decode cX3_key 82 = .ok (.putfield 42, 3) := by decide +kernel
theorem dX3_key_85 : decode cX3_key 85 = .ok (.aload_n 0, 1) := by decide +kernel
theorem dX3_key_86 : decode cX3_key 86 = .ok (.getfield 42, 3) := by decide +kernel
theorem dX3_key_89 : decode cX3_key 89 = .ok (.ireturn, 1) := by decide +kernel
set_option maxRecDepth 20000 in
theorem ggX3_remote_X1_keep : GoodIn wsX3_remote wsX1_keep := goodIn_r _ [7, 8, 9, 148, 149] (by decide +kernel) (by decide +kernel)
set_option maxRecDepth 20000 in
theorem gX3_remote_X1_keep : GoodIn wsX3_remote (wsV RX3 48 RX1 yX1_keep wsX1_keep) := goodIn_app (goodIn_of _ (by decide +kernel)) ggX3_remote_X1_keep
set_option maxRecDepth 20000 in
theorem ggX3_remote_X1_clear : GoodIn wsX3_remote wsX1_clear := goodIn_r _ [13, 8, 148, 149] (by decide +kernel) (by decide +kernel)
set_option maxRecDepth 20000 in
theorem gX3_remote_X1_clear : GoodIn wsX3_remote (wsV RX3 52 RX1 yX1_clear wsX1_clear) := goodIn_app (goodIn_of _ (by decide +kernel)) ggX3_remote_X1_clear
set_option maxRecDepth 20000 in
theorem ggX3_remote_X3_judge : GoodIn wsX3_remote wsX3_judge := goodIn_r _ [18, 19, 20, 21, 22, 23, 24, 25, 6, 26, 8, 27, 28, 29, 30, 9, 31, 32, 33, 34, 35, 36, 37, 38, 39, 40, 41, 42, 43, 44, 45, 17, 46, 47, 48, 49, 50, 51, 52, 53, 54, 55, 56, 57, 58, 59, 60, 61, 62, 63, 64, 65, 66, 67, 68, 69, 70, 71, 72, 73, 74, 75, 76, 77, 78, 79, 80, 81, 82, 83, 84, 85, 86, 87, 88, 89, 90, 91, 92, 93, 94, 95, 96, 97, 98, 99, 100, 101, 102, 103, 104, 105, 106, 107, 108, 109, 110, 111, 112, 113, 114, 115, 116, 117, 118, 119, 120, 121, 122, 123, 124, 125, 126, 127, 128, 129, 130, 131, 132, 133, 134, 135, 136, 137, 138, 150, 151, 152, 153, 154, 155, 156, 139, 140, 141, 142, 143, 144, 145, 146, 147, 148, 149, 157, 158, 159] (by decide +kernel) (by decide +kernel)
set_option maxRecDepth 20000 in
theorem gX3_remote_X3_judge : GoodIn wsX3_remote (wsV RX3 55 RX3 yX3_judge wsX3_judge) := goodIn_app (goodIn_of _ (by decide +kernel)) ggX3_remote_X3_judge
theorem dX3_remote_0 : decode cX3_remote 0 = .ok (.aload_n 0, 1) := by decide +kernel
theorem dX3_remote_1 : decode cX3_remote 1 = .ok (.getfield 22, 3) := by decide +kernel
theorem dX3_remote_4 : decode cX3_remote 4 = .ok (.iload_n 1, 1) := by decide +kernel
theorem dX3_remote_5 : decode cX3_remote 5 = .ok (.invokevirtual 48, 3) := by decide +kernel
theorem dX3_remote_8 : decode cX3_remote 8 = .ok (.iload_n 2, 1) := by decide +kernel
theorem dX3_remote_9 : decode cX3_remote 9 = .ok (.ifCond .ne 5, 3) := by decide +kernel
theorem dX3_remote_12 : decode cX3_remote 12 = .ok (.iconst 0, 1) := by decide +kernel
theorem dX3_remote_13 : decode cX3_remote 13 = .ok (.ireturn, 1) := by decide +kernel
theorem dX3_remote_14 : decode cX3_remote 14 = .ok (.aload_n 0, 1) := by decide +kernel
theorem dX3_remote_15 : decode cX3_remote 15 = .ok (.getfield 22, 3) := by decide +kernel
theorem dX3_remote_18 : decode cX3_remote 18 = .ok (.astore_n 3, 1) := by decide +kernel
theorem dX3_remote_19 : decode cX3_remote 19 = .ok (.aload_n 0, 1) := by decide +kernel
theorem dX3_remote_20 : decode cX3_remote 20 = .ok (.aload_n 0, 1) := by decide +kernel
theorem dX3_remote_21 : decode cX3_remote 21 = .ok (.getfield 26, 3) := by decide +kernel
theorem dX3_remote_24 : decode cX3_remote 24 = .ok (.putfield 22, 3) := by decide +kernel
theorem dX3_remote_27 : decode cX3_remote 27 = .ok (.aload_n 0, 1) := by decide +kernel
theorem dX3_remote_28 : decode cX3_remote 28 = .ok (.getfield 22, 3) := by decide +kernel
theorem dX3_remote_31 : decode cX3_remote 31 = .ok (.invokevirtual 52, 3) := by decide +kernel
theorem dX3_remote_34 : decode cX3_remote 34 = .ok (.aload_n 0, 1) := by decide +kernel
theorem dX3_remote_35 : decode cX3_remote 35 = .ok (.aload_n 3, 1) := by decide +kernel
theorem dX3_remote_36 : decode cX3_remote 36 = .ok (.putfield 26, 3) := by decide +kernel
theorem dX3_remote_39 : decode cX3_remote 39 = .ok (.aload_n 0, 1) := by decide +kernel
theorem dX3_remote_40 : decode cX3_remote 40 = .ok (.aload_n 3, 1) := by decide +kernel
theorem dX3_remote_41 : decode cX3_remote 41 = .ok (.invokevirtual 55, 3) := by decide +kernel
theorem dX3_remote_44 : decode cX3_remote 44 = .ok (.ireturn, 1) := by decide +kernel
set_option maxRecDepth 20000 in
theorem ggX3_counter_X3_find : GoodIn wsX3_counter wsX3_find := goodIn_r _ [7, 8, 9, 17, 18, 19, 20, 21, 22, 23, 24, 25] (by decide +kernel) (by decide +kernel)
set_option maxRecDepth 20000 in
theorem gX3_counter_X3_find : GoodIn wsX3_counter (wsV RX3 59 RX3 yX3_find wsX3_find) := goodIn_app (goodIn_of _ (by decide +kernel)) ggX3_counter_X3_find
theorem dX3_counter_0 : decode cX3_counter 0 = .ok (.aload_n 0, 1) := by decide +kernel
theorem dX3_counter_1 : decode cX3_counter 1 = .ok (.iload_n 1, 1) := by decide +kernel
theorem dX3_counter_2 : decode cX3_counter 2 = .ok (.invokevirtual 59, 3) := by decide +kernel
theorem dX3_counter_5 : decode cX3_counter 5 = .ok (.astore_n 2, 1) := by decide +kernel
theorem dX3_counter_6 : decode cX3_counter 6 = .ok (.aload_n 2, 1) := by decide +kernel
theorem dX3_counter_7 : decode cX3_counter 7 = .ok (.ifnonnull 9, 3) := by decide +kernel
theorem dX3_counter_10 : decode cX3_counter 10 = .ok (.ldc2_w 63, 3) := by decide +kernel
theorem dX3_counter_13 : decode cX3_counter 13 = .ok (.goto 8, 3) := by decide +kernel
theorem dX3_counter_16 : decode cX3_counter 16 = .ok (.aload_n 2, 1) := by decide +kernel
theorem dX3_counter_17 : decode cX3_counter 17 = .ok (.getfield 65, 3) := by decide +kernel
theorem dX3_counter_20 : decode cX3_counter 20 = .ok (.i2l, 1) := by decide +kernel
theorem dX3_counter_21 : decode cX3_counter 21 = .ok (.lreturn, 1) := by decide +kernel
set_option maxRecDepth 20000 in
theorem ggX3_lock_X0_hasAny : GoodIn wsX3_lock wsX0_hasAny := goodIn_r _ [7, 8, 57, 58, 59] (by decide +kernel) (by decide +kernel)
set_option maxRecDepth 20000 in
theorem gX3_lock_X0_hasAny : GoodIn wsX3_lock (wsV RX3 68 RX0 yX0_hasAny wsX0_hasAny) := goodIn_app (goodIn_of _ (by decide +kernel)) ggX3_lock_X0_hasAny
set_option maxRecDepth 20000 in
theorem ggX3_lock_X0_openAll : GoodIn wsX3_lock wsX0_openAll := goodIn_r _ [12, 13, 14, 15, 6, 16, 8, 57, 58, 59] (by decide +kernel) (by decide +kernel)
set_option maxRecDepth 20000 in
theorem gX3_lock_X0_openAll : GoodIn wsX3_lock (wsV RX3 72 RX0 yX0_openAll wsX0_openAll) := goodIn_app (goodIn_of _ (by decide +kernel)) ggX3_lock_X0_openAll
set_option maxRecDepth 20000 in
theorem ggX3_lock_X0_deadenUnlessOpen : GoodIn wsX3_lock wsX0_deadenUnlessOpen := goodIn_r _ [20, 21, 4, 5, 6, 7, 8, 13, 14, 15, 16, 57, 58, 59] (by decide +kernel) (by decide +kernel)
set_option maxRecDepth 20000 in
theorem gX3_lock_X0_deadenUnlessOpen : GoodIn wsX3_lock (wsV RX3 80 RX0 yX0_deadenUnlessOpen wsX0_deadenUnlessOpen) := goodIn_app (goodIn_of _ (by decide +kernel)) ggX3_lock_X0_deadenUnlessOpen
set_option maxRecDepth 20000 in
theorem ggX3_lock_X0_shutBoot : GoodIn wsX3_lock wsX0_shutBoot := goodIn_r _ [25, 26, 27, 28, 6, 29, 8, 30, 31, 32, 33, 34, 35, 36, 37, 38, 39, 40, 41, 42, 43, 21, 4, 5, 7, 57, 58, 59] (by decide +kernel) (by decide +kernel)
set_option maxRecDepth 20000 in
theorem gX3_lock_X0_shutBoot : GoodIn wsX3_lock (wsV RX3 83 RX0 yX0_shutBoot wsX0_shutBoot) := goodIn_app (goodIn_of _ (by decide +kernel)) ggX3_lock_X0_shutBoot
set_option maxRecDepth 20000 in
theorem ggX3_lock_X0_shutAll : GoodIn wsX3_lock wsX0_shutAll := goodIn_r _ [47, 13, 14, 15, 6, 16, 8, 38, 39, 40, 41, 42, 43, 21, 4, 5, 7, 57, 58, 59] (by decide +kernel) (by decide +kernel)
set_option maxRecDepth 20000 in
theorem gX3_lock_X0_shutAll : GoodIn wsX3_lock (wsV RX3 86 RX0 yX0_shutAll wsX0_shutAll) := goodIn_app (goodIn_of _ (by decide +kernel)) ggX3_lock_X0_shutAll
theorem dX3_lock_0 : decode cX3_lock 0 = .ok (.iload_n 1, 1) := by decide +kernel
theorem dX3_lock_1 : decode cX3_lock 1 = .ok (.ifCond .lt 8, 3) := by decide +kernel
theorem dX3_lock_4 : decode cX3_lock 4 = .ok (.iload_n 1, 1) := by decide +kernel
theorem dX3_lock_5 : decode cX3_lock 5 = .ok (.iconst 3, 1) := by decide +kernel
theorem dX3_lock_6 : decode cX3_lock 6 = .ok (.if_icmp .le 6, 3) := by decide +kernel
theorem dX3_lock_9 : decode cX3_lock 9 = .ok (.bipush (-2), 2) := by decide +kernel
theorem dX3_lock_11 : decode cX3_lock 11 = .ok (.ireturn, 1) := by decide +kernel
theorem dX3_lock_12 : decode cX3_lock 12 = .ok (.iload_n 1, 1) := by decide +kernel
theorem dX3_lock_13 : decode cX3_lock 13 = .ok (.iconst 3, 1) := by decide +kernel
theorem dX3_lock_14 : decode cX3_lock 14 = .ok (.if_icmp .ne 26, 3) := by decide +kernel
theorem dX3_lock_17 : decode cX3_lock 17 = .ok (.aload_n 0, 1) := by decide +kernel
theorem dX3_lock_18 : decode cX3_lock 18 = .ok (.getfield 32, 3) := by decide +kernel
theorem dX3_lock_21 : decode cX3_lock 21 = .ok (.iconst 2, 1) := by decide +kernel
theorem dX3_lock_22 : decode cX3_lock 22 = .ok (.invokevirtual 68, 3) := by decide +kernel
theorem dX3_lock_25 : decode cX3_lock 25 = .ok (.ifCond .eq 7, 3) := by decide +kernel
theorem dX3_lock_28 : decode cX3_lock 28 = .ok (.iconst 0, 1) := by decide +kernel
theorem dX3_lock_29 : decode cX3_lock 29 = .ok (.goto 10, 3) := by decide +kernel
theorem dX3_lock_32 : decode cX3_lock 32 = .ok (.aload_n 0, 1) := by decide +kernel
theorem dX3_lock_33 : decode cX3_lock 33 = .ok (.getfield 32, 3) := by decide +kernel
theorem dX3_lock_36 : decode cX3_lock 36 = .ok (.invokevirtual 72, 3) := by decide +kernel
theorem dX3_lock_39 : decode cX3_lock 39 = .ok (.ireturn, 1) := by decide +kernel
theorem dX3_lock_40 : decode cX3_lock 40 = .ok (.aload_n 0, 1) := by decide +kernel
theorem dX3_lock_41 : decode cX3_lock 41 = .ok (.getfield 76, 3) := by decide +kernel
theorem dX3_lock_44 : decode cX3_lock 44 = .ok (.ifCond .eq 6, 3) := by decide +kernel
theorem dX3_lock_47 : decode cX3_lock 47 = .ok (.bipush (-3), 2) := by decide +kernel
theorem dX3_lock_49 : decode cX3_lock 49 = .ok (.ireturn, 1) := by decide +kernel
theorem dX3_lock_50 : decode cX3_lock 50 = .ok (.iload_n 1, 1) := by decide +kernel
theorem dX3_lock_51 : decode cX3_lock 51 = .ok (.iconst 1, 1) := by decide +kernel
theorem dX3_lock_52 : decode cX3_lock 52 = .ok (.if_icmp .ne 11, 3) := by decide +kernel
theorem dX3_lock_55 : decode cX3_lock 55 = .ok (.aload_n 0, 1) := by decide +kernel
theorem dX3_lock_56 : decode cX3_lock 56 = .ok (.getfield 32, 3) := by decide +kernel
theorem dX3_lock_59 : decode cX3_lock 59 = .ok (.invokevirtual 80, 3) := by decide +kernel
theorem dX3_lock_62 : decode cX3_lock 62 = .ok (.ireturn, 1) := by decide +kernel
theorem dX3_lock_63 : decode cX3_lock 63 = .ok (.iload_n 1, 1) := by decide +kernel
theorem dX3_lock_64 : decode cX3_lock 64 = .ok (.iconst 2, 1) := by decide +kernel
theorem dX3_lock_65 : decode cX3_lock 65 = .ok (.if_icmp .ne 13, 3) := by decide +kernel
theorem dX3_lock_68 : decode cX3_lock 68 = .ok (.aload_n 0, 1) := by decide +kernel
theorem dX3_lock_69 : decode cX3_lock 69 = .ok (.getfield 32, 3) := by decide +kernel
theorem dX3_lock_72 : decode cX3_lock 72 = .ok (.invokevirtual 83, 3) := by decide +kernel
theorem dX3_lock_75 : decode cX3_lock 75 = .ok (.goto 10, 3) := by decide +kernel
theorem dX3_lock_78 : decode cX3_lock 78 = .ok (.aload_n 0, 1) := by decide +kernel
theorem dX3_lock_79 : decode cX3_lock 79 = .ok (.getfield 32, 3) := by decide +kernel
theorem dX3_lock_82 : decode cX3_lock 82 = .ok (.invokevirtual 86, 3) := by decide +kernel
theorem dX3_lock_85 : decode cX3_lock 85 = .ok (.ireturn, 1) := by decide +kernel
set_option maxRecDepth 20000 in
theorem ggX3_learn_X3_find : GoodIn wsX3_learn wsX3_find := goodIn_r _ [6, 7, 8, 28, 29, 30, 31, 32, 33, 34, 35, 36] (by decide +kernel) (by decide +kernel)
set_option maxRecDepth 20000 in
theorem gX3_learn_X3_find : GoodIn wsX3_learn (wsV RX3 59 RX3 yX3_find wsX3_find) := goodIn_app (goodIn_of _ (by decide +kernel)) ggX3_learn_X3_find
set_option maxRecDepth 20000 in
theorem ggX3_learn_X2_mayTeach : GoodIn wsX3_learn wsX2_mayTeach := goodIn_r _ [13, 14, 15, 16, 17, 12, 18, 19, 20, 21, 22, 23, 24, 25, 26, 27] (by decide +kernel) (by decide +kernel)
set_option maxRecDepth 20000 in
theorem gX3_learn_X2_mayTeach : GoodIn wsX3_learn (wsV RX3 92 RX2 yX2_mayTeach wsX2_mayTeach) := goodIn_app (goodIn_of _ (by decide +kernel)) ggX3_learn_X2_mayTeach
theorem dX3_learn_0 : decode cX3_learn 0 = .ok (.aload_n 0, 1) := by decide +kernel
theorem dX3_learn_1 : decode cX3_learn 1 = .ok (.iload_n 1, 1) := by decide +kernel
theorem dX3_learn_2 : decode cX3_learn 2 = .ok (.invokevirtual 59, 3) := by decide +kernel
theorem dX3_learn_5 : decode cX3_learn 5 = .ok (.astore 4, 2) := by decide +kernel
theorem dX3_learn_7 : decode cX3_learn 7 = .ok (.aload_n 0, 1) := by decide +kernel
theorem dX3_learn_8 : decode cX3_learn 8 = .ok (.iload_n 2, 1) := by decide +kernel
theorem dX3_learn_9 : decode cX3_learn 9 = .ok (.invokevirtual 59, 3) := by decide +kernel
theorem dX3_learn_12 : decode cX3_learn 12 = .ok (.astore 5, 2) := by decide +kernel
theorem dX3_learn_14 : decode cX3_learn 14 = .ok (.aload_n 0, 1) := by decide +kernel
theorem dX3_learn_15 : decode cX3_learn 15 = .ok (.iload_n 3, 1) := by decide +kernel
theorem dX3_learn_16 : decode cX3_learn 16 = .ok (.invokevirtual 59, 3) := by decide +kernel
theorem dX3_learn_19 : decode cX3_learn 19 = .ok (.astore 6, 2) := by decide +kernel
theorem dX3_learn_21 : decode cX3_learn 21 = .ok (.aload 4, 2) := by decide +kernel
theorem dX3_learn_23 : decode cX3_learn 23 = .ok (.ifnull 13, 3) := by decide +kernel
theorem dX3_learn_26 : decode cX3_learn 26 = .ok (.aload 5, 2) := by decide +kernel
theorem dX3_learn_28 : decode cX3_learn 28 = .ok (.ifnull 8, 3) := by decide +kernel
theorem dX3_learn_31 : decode cX3_learn 31 = .ok (.aload 6, 2) := by decide +kernel
theorem dX3_learn_33 : decode cX3_learn 33 = .ok (.ifnonnull 5, 3) := by decide +kernel
theorem dX3_learn_36 : decode cX3_learn 36 = .ok (.iconst (-1), 1) := by decide +kernel
theorem dX3_learn_37 : decode cX3_learn 37 = .ok (.ireturn, 1) := by decide +kernel
theorem dX3_learn_38 : decode cX3_learn 38 = .ok (.aload 4, 2) := by decide +kernel
theorem dX3_learn_40 : decode cX3_learn 40 = .ok (.getfield 89, 3) := by decide +kernel
theorem dX3_learn_43 : decode cX3_learn 43 = .ok (.ifCond .ne 24, 3) := by decide +kernel
theorem dX3_learn_46 : decode cX3_learn 46 = .ok (.iload_n 2, 1) := by decide +kernel
theorem dX3_learn_47 : decode cX3_learn 47 = .ok (.iload_n 3, 1) := by decide +kernel
theorem dX3_learn_48 : decode cX3_learn 48 = .ok (.if_icmp .eq 19, 3) := by decide +kernel
theorem dX3_learn_51 : decode cX3_learn 51 = .ok (.aload 5, 2) := by decide +kernel
theorem dX3_learn_53 : decode cX3_learn 53 = .ok (.invokevirtual 92, 3) := by decide +kernel
theorem dX3_learn_56 : decode cX3_learn 56 = .ok (.ifCond .eq 11, 3) := by decide +kernel
theorem dX3_learn_59 : decode cX3_learn 59 = .ok (.aload 6, 2) := by decide +kernel
theorem dX3_learn_61 : decode cX3_learn 61 = .ok (.invokevirtual 92, 3) := by decide +kernel
theorem dX3_learn_64 : decode cX3_learn 64 = .ok (.ifCond .ne 5, 3) := by decide +kernel
theorem dX3_learn_67 : decode cX3_learn 67 = .ok (.iconst 0, 1) := by decide +kernel
theorem dX3_learn_68 : decode cX3_learn 68 = .ok (.ireturn, 1) := by decide +kernel
theorem dX3_learn_69 : decode cX3_learn 69 = .ok (.aload 4, 2) := by decide +kernel
theorem dX3_learn_71 : decode cX3_learn 71 = .ok (.iconst 1, 1) := by decide +kernel
theorem dX3_learn_72 : decode cX3_learn 72 = .ok (.putfield 89, 3) := by decide +kernel
theorem dX3_learn_75 : decode cX3_learn 75 = .ok (.iconst 1, 1) := by decide +kernel
theorem dX3_learn_76 : decode cX3_learn 76 = .ok (.ireturn, 1) := by decide +kernel
set_option maxRecDepth 20000 in
theorem ggX3_erase_X3_find : GoodIn wsX3_erase wsX3_find := goodIn_r _ [8, 9, 10, 22, 23, 24, 25, 26, 27, 28, 29, 30] (by decide +kernel) (by decide +kernel)
set_option maxRecDepth 20000 in
theorem gX3_erase_X3_find : GoodIn wsX3_erase (wsV RX3 59 RX3 yX3_find wsX3_find) := goodIn_app (goodIn_of _ (by decide +kernel)) ggX3_erase_X3_find
set_option maxRecDepth 20000 in
theorem ggX3_erase_X3_learnedKeys : GoodIn wsX3_erase wsX3_learnedKeys := goodIn_r _ [14, 9, 1, 4, 5, 6, 7, 8, 10, 22, 23, 24, 25, 26, 27, 28, 29, 30, 15, 16, 17, 18, 19, 20, 21] (by decide +kernel) (by decide +kernel)
set_option maxRecDepth 20000 in
theorem gX3_erase_X3_learnedKeys : GoodIn wsX3_erase (wsV RX3 96 RX3 yX3_learnedKeys wsX3_learnedKeys) := goodIn_app (goodIn_of _ (by decide +kernel)) ggX3_erase_X3_learnedKeys
theorem dX3_erase_0 : decode cX3_erase 0 = .ok (.aload_n 0, 1) := by decide +kernel
theorem dX3_erase_1 : decode cX3_erase 1 = .ok (.iload_n 1, 1) := by decide +kernel
theorem dX3_erase_2 : decode cX3_erase 2 = .ok (.invokevirtual 59, 3) := by decide +kernel
theorem dX3_erase_5 : decode cX3_erase 5 = .ok (.astore_n 2, 1) := by decide +kernel
theorem dX3_erase_6 : decode cX3_erase 6 = .ok (.aload_n 2, 1) := by decide +kernel
