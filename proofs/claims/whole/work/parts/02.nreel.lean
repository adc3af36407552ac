set_option maxRecDepth 20000 in
theorem ggX0_init_X3_init : GoodIn wsX0_init wsX3_init := goodIn_r _ [5, 6, 7, 8] (by decide +kernel) (by decide +kernel)
set_option maxRecDepth 20000 in
theorem gX0_init_X3_init_n3 : GoodIn wsX0_init (wsX3_init) := ggX0_init_X3_init
theorem dX0_init_0 : decode cX0_init 0 = .ok (.aload_n 0, 1) := by decide +kernel
theorem dX0_init_1 : decode cX0_init 1 = .ok (.invokespecial 3, 3) := by decide +kernel
theorem dX0_init_4 : decode cX0_init 4 = .ok (.aload_n 0, 1) := by decide +kernel
theorem dX0_init_5 : decode cX0_init 5 = .ok (.iload_n 1, 1) := by decide +kernel
theorem dX0_init_6 : decode cX0_init 6 = .ok (.newarray .float, 2) := by decide +kernel
theorem dX0_init_8 : decode cX0_init 8 = .ok (.putfield 9, 3) := by decide +kernel
theorem dX0_init_11 : decode cX0_init 11 = .ok (.return_, 1) := by decide +kernel
theorem dX0_places_0 : decode cX0_places 0 = .ok (.aload_n 0, 1) := by decide +kernel
theorem dX0_places_1 : decode cX0_places 1 = .ok (.getfield 9, 3) := by decide +kernel
theorem dX0_places_4 : decode cX0_places 4 = .ok (.arraylength, 1) := by decide +kernel
theorem dX0_places_5 : decode cX0_places 5 = .ok (.ireturn, 1) := by decide +kernel
theorem dX0_told_0 : decode cX0_told 0 = .ok (.aload_n 0, 1) := by decide +kernel
theorem dX0_told_1 : decode cX0_told 1 = .ok (.getfield 9, 3) := by decide +kernel
theorem dX0_told_4 : decode cX0_told 4 = .ok (.iload_n 1, 1) := by decide +kernel
theorem dX0_told_5 : decode cX0_told 5 = .ok (.faload, 1) := by decide +kernel
theorem dX0_told_6 : decode cX0_told 6 = .ok (.ldc 15, 2) := by decide +kernel
theorem dX0_told_8 : decode cX0_told 8 = .ok (.fmul, 1) := by decide +kernel
theorem dX0_told_9 : decode cX0_told 9 = .ok (.f2i, 1) := by decide +kernel
theorem dX0_told_10 : decode cX0_told 10 = .ok (.ireturn, 1) := by decide +kernel
set_option maxRecDepth 20000 in
theorem ggX0_put_X0_levelOf : GoodIn wsX0_put wsX0_levelOf := goodIn_r _ [4, 5] (by decide +kernel) (by decide +kernel)
set_option maxRecDepth 20000 in
theorem gX0_put_X0_levelOf : GoodIn wsX0_put (va_wsS RX0 16 yX0_levelOf wsX0_levelOf) := goodIn_app (goodIn_of _ (by decide +kernel)) ggX0_put_X0_levelOf
set_option maxRecDepth 20000 in
theorem ggX0_put_X0_putLevel : GoodIn wsX0_put wsX0_putLevel := goodIn_r _ [9, 10, 11, 12, 3, 13, 14, 15, 16] (by decide +kernel) (by decide +kernel)
set_option maxRecDepth 20000 in
theorem gX0_put_X0_putLevel : GoodIn wsX0_put (wsV RX0 20 RX0 yX0_putLevel wsX0_putLevel) := goodIn_app (goodIn_of _ (by decide +kernel)) ggX0_put_X0_putLevel
theorem dX0_put_0 : decode cX0_put 0 = .ok (.aload_n 0, 1) := by decide +kernel
theorem dX0_put_1 : decode cX0_put 1 = .ok (.iload_n 1, 1) := by decide +kernel
theorem dX0_put_2 : decode cX0_put 2 = .ok (.iload_n 2, 1) := by decide +kernel
theorem dX0_put_3 : decode cX0_put 3 = .ok (.invokestatic 16, 3) := by decide +kernel
theorem dX0_put_6 : decode cX0_put 6 = .ok (.invokevirtual 20, 3) := by decide +kernel
theorem dX0_put_9 : decode cX0_put 9 = .ok (.return_, 1) := by decide +kernel
set_option maxRecDepth 20000 in
theorem ggX0_change_X0_levelOf : GoodIn wsX0_change wsX0_levelOf := goodIn_r _ [5, 6] (by decide +kernel) (by decide +kernel)
set_option maxRecDepth 20000 in
theorem gX0_change_X0_levelOf : GoodIn wsX0_change (va_wsS RX0 16 yX0_levelOf wsX0_levelOf) := goodIn_app (goodIn_of _ (by decide +kernel)) ggX0_change_X0_levelOf
set_option maxRecDepth 20000 in
theorem ggX0_change_X0_putLevel : GoodIn wsX0_change wsX0_putLevel := goodIn_r _ [10, 1, 11, 12, 4, 13, 14, 15, 16] (by decide +kernel) (by decide +kernel)
set_option maxRecDepth 20000 in
theorem gX0_change_X0_putLevel : GoodIn wsX0_change (wsV RX0 20 RX0 yX0_putLevel wsX0_putLevel) := goodIn_app (goodIn_of _ (by decide +kernel)) ggX0_change_X0_putLevel
theorem dX0_change_0 : decode cX0_change 0 = .ok (.iload_n 3, 1) := by decide +kernel
theorem dX0_change_1 : decode cX0_change 1 = .ok (.invokestatic 16, 3) := by decide +kernel
theorem dX0_change_4 : decode cX0_change 4 = .ok (.fstore 4, 2) := by decide +kernel
theorem dX0_change_6 : decode cX0_change 6 = .ok (.aload_n 0, 1) := by decide +kernel
theorem dX0_change_7 : decode cX0_change 7 = .ok (.iload_n 1, 1) := by decide +kernel
theorem dX0_change_8 : decode cX0_change 8 = .ok (.iload_n 2, 1) := by decide +kernel
theorem dX0_change_9 : decode cX0_change 9 = .ok (.iconst 1, 1) := by decide +kernel
theorem dX0_change_10 : decode cX0_change 10 = .ok (.if_icmp .ne 15, 3) := by decide +kernel
theorem dX0_change_13 : decode cX0_change 13 = .ok (.aload_n 0, 1) := by decide +kernel
theorem dX0_change_14 : decode cX0_change 14 = .ok (.getfield 9, 3) := by decide +kernel
theorem dX0_change_17 : decode cX0_change 17 = .ok (.iload_n 1, 1) := by decide +kernel
theorem dX0_change_18 : decode cX0_change 18 = .ok (.faload, 1) := by decide +kernel
theorem dX0_change_19 : decode cX0_change 19 = .ok (.fload 4, 2) := by decide +kernel
theorem dX0_change_21 : decode cX0_change 21 = .ok (.fsub, 1) := by decide +kernel
theorem dX0_change_22 : decode cX0_change 22 = .ok (.goto 12, 3) := by decide +kernel
theorem dX0_change_25 : decode cX0_change 25 = .ok (.aload_n 0, 1) := by decide +kernel
theorem dX0_change_26 : decode cX0_change 26 = .ok (.getfield 9, 3) := by decide +kernel
theorem dX0_change_29 : decode cX0_change 29 = .ok (.iload_n 1, 1) := by decide +kernel
theorem dX0_change_30 : decode cX0_change 30 = .ok (.faload, 1) := by decide +kernel
theorem dX0_change_31 : decode cX0_change 31 = .ok (.fload 4, 2) := by decide +kernel
theorem dX0_change_33 : decode cX0_change 33 = .ok (.fadd, 1) := by decide +kernel
theorem dX0_change_34 : decode cX0_change 34 = .ok (.invokevirtual 20, 3) := by decide +kernel
theorem dX0_change_37 : decode cX0_change 37 = .ok (.return_, 1) := by decide +kernel
set_option maxRecDepth 20000 in
theorem ggX0_stepUp_X0_putLevel : GoodIn wsX0_stepUp wsX0_putLevel := goodIn_r _ [6, 1, 7, 8, 5, 9, 10, 11, 12] (by decide +kernel) (by decide +kernel)
set_option maxRecDepth 20000 in
theorem gX0_stepUp_X0_putLevel : GoodIn wsX0_stepUp (wsV RX0 20 RX0 yX0_putLevel wsX0_putLevel) := goodIn_app (goodIn_of _ (by decide +kernel)) ggX0_stepUp_X0_putLevel
theorem dX0_stepUp_0 : decode cX0_stepUp 0 = .ok (.aload_n 0, 1) := by decide +kernel
theorem dX0_stepUp_1 : decode cX0_stepUp 1 = .ok (.iload_n 1, 1) := by decide +kernel
theorem dX0_stepUp_2 : decode cX0_stepUp 2 = .ok (.aload_n 0, 1) := by decide +kernel
theorem dX0_stepUp_3 : decode cX0_stepUp 3 = .ok (.getfield 9, 3) := by decide +kernel
theorem dX0_stepUp_6 : decode cX0_stepUp 6 = .ok (.iload_n 1, 1) := by decide +kernel
theorem dX0_stepUp_7 : decode cX0_stepUp 7 = .ok (.faload, 1) := by decide +kernel
theorem dX0_stepUp_8 : decode cX0_stepUp 8 = .ok (.fconst 1, 1) := by decide +kernel
theorem dX0_stepUp_9 : decode cX0_stepUp 9 = .ok (.fadd, 1) := by decide +kernel
theorem dX0_stepUp_10 : decode cX0_stepUp 10 = .ok (.invokevirtual 20, 3) := by decide +kernel
theorem dX0_stepUp_13 : decode cX0_stepUp 13 = .ok (.return_, 1) := by decide +kernel
theorem dX0_level_0 : decode cX0_level 0 = .ok (.aload_n 0, 1) := by decide +kernel
theorem dX0_level_1 : decode cX0_level 1 = .ok (.getfield 9, 3) := by decide +kernel
theorem dX0_level_4 : decode cX0_level 4 = .ok (.iload_n 1, 1) := by decide +kernel
theorem dX0_level_5 : decode cX0_level 5 = .ok (.faload, 1) := by decide +kernel
theorem dX0_level_6 : decode cX0_level 6 = .ok (.freturn, 1) := by decide +kernel
set_option maxRecDepth 20000 in
theorem ggX0_putLevel_X0_bounded : GoodIn wsX0_putLevel wsX0_bounded := goodIn_r _ [5, 6, 7] (by decide +kernel) (by decide +kernel)
set_option maxRecDepth 20000 in
theorem gX0_putLevel_X0_bounded : GoodIn wsX0_putLevel (va_wsS RX0 24 yX0_bounded wsX0_bounded) := goodIn_app (goodIn_of _ (by decide +kernel)) ggX0_putLevel_X0_bounded
theorem dX0_putLevel_0 : decode cX0_putLevel 0 = .ok (.aload_n 0, 1) := by decide +kernel
theorem dX0_putLevel_1 : decode cX0_putLevel 1 = .ok (.getfield 9, 3) := by decide +kernel
theorem dX0_putLevel_4 : decode cX0_putLevel 4 = .ok (.iload_n 1, 1) := by decide +kernel
theorem dX0_putLevel_5 : decode cX0_putLevel 5 = .ok (.fload_n 2, 1) := by decide +kernel
theorem dX0_putLevel_6 : decode cX0_putLevel 6 = .ok (.invokestatic 24, 3) := by decide +kernel
theorem dX0_putLevel_9 : decode cX0_putLevel 9 = .ok (.fastore, 1) := by decide +kernel
theorem dX0_putLevel_10 : decode cX0_putLevel 10 = .ok (.return_, 1) := by decide +kernel
theorem dX0_levelOf_0 : decode cX0_levelOf 0 = .ok (.iload_n 0, 1) := by decide +kernel
theorem dX0_levelOf_1 : decode cX0_levelOf 1 = .ok (.i2f, 1) := by decide +kernel
theorem dX0_levelOf_2 : decode cX0_levelOf 2 = .ok (.ldc 15, 2) := by decide +kernel
theorem dX0_levelOf_4 : decode cX0_levelOf 4 = .ok (.fdiv, 1) := by decide +kernel
theorem dX0_levelOf_5 : decode cX0_levelOf 5 = .ok (.freturn, 1) := by decide +kernel
theorem dX0_bounded_0 : decode cX0_bounded 0 = .ok (.fload_n 0, 1) := by decide +kernel
theorem dX0_bounded_1 : decode cX0_bounded 1 = .ok (.ldc 28, 2) := by decide +kernel
theorem dX0_bounded_3 : decode cX0_bounded 3 = .ok (.fcmp .l, 1) := by decide +kernel
theorem dX0_bounded_4 : decode cX0_bounded 4 = .ok (.ifCond .le 6, 3) := by decide +kernel
theorem dX0_bounded_7 : decode cX0_bounded 7 = .ok (.ldc 28, 2) := by decide +kernel
theorem dX0_bounded_9 : decode cX0_bounded 9 = .ok (.freturn, 1) := by decide +kernel
theorem dX0_bounded_10 : decode cX0_bounded 10 = .ok (.fload_n 0, 1) := by decide +kernel
theorem dX0_bounded_11 : decode cX0_bounded 11 = .ok (.ldc 29, 2) := by decide +kernel
theorem dX0_bounded_13 : decode cX0_bounded 13 = .ok (.fcmp .g, 1) := by decide +kernel
theorem dX0_bounded_14 : decode cX0_bounded 14 = .ok (.ifCond .ge 8, 3) := by decide +kernel
theorem dX0_bounded_17 : decode cX0_bounded 17 = .ok (.ldc 29, 2) := by decide +kernel
theorem dX0_bounded_19 : decode cX0_bounded 19 = .ok (.goto 4, 3) := by decide +kernel
theorem dX0_bounded_22 : decode cX0_bounded 22 = .ok (.fload_n 0, 1) := by decide +kernel
theorem dX0_bounded_23 : decode cX0_bounded 23 = .ok (.freturn, 1) := by decide +kernel
set_option maxRecDepth 20000 in
theorem ggX1_init_X3_init : GoodIn wsX1_init wsX3_init := goodIn_r _ [5, 6, 7, 8] (by decide +kernel) (by decide +kernel)
set_option maxRecDepth 20000 in
theorem gX1_init_X3_init_n1 : GoodIn wsX1_init (wsX3_init) := ggX1_init_X3_init
theorem dX1_init_0 : decode cX1_init 0 = .ok (.aload_n 0, 1) := by decide +kernel
theorem dX1_init_1 : decode cX1_init 1 = .ok (.invokespecial 1, 3) := by decide +kernel
theorem dX1_init_4 : decode cX1_init 4 = .ok (.aload_n 0, 1) := by decide +kernel
theorem dX1_init_5 : decode cX1_init 5 = .ok (.iload_n 1, 1) := by decide +kernel
theorem dX1_init_6 : decode cX1_init 6 = .ok (.newarray .boolean, 2) := by decide +kernel
theorem dX1_init_8 : decode cX1_init 8 = .ok (.putfield 7, 3) := by decide +kernel
theorem dX1_init_11 : decode cX1_init 11 = .ok (.return_, 1) := by decide +kernel
theorem dX1_places_0 : decode cX1_places 0 = .ok (.aload_n 0, 1) := by decide +kernel
theorem dX1_places_1 : decode cX1_places 1 = .ok (.getfield 7, 3) := by decide +kernel
theorem dX1_places_4 : decode cX1_places 4 = .ok (.arraylength, 1) := by decide +kernel
theorem dX1_places_5 : decode cX1_places 5 = .ok (.ireturn, 1) := by decide +kernel
theorem dX1_told_0 : decode cX1_told 0 = .ok (.aload_n 0, 1) := by decide +kernel
theorem dX1_told_1 : decode cX1_told 1 = .ok (.getfield 7, 3) := by decide +kernel
theorem dX1_told_4 : decode cX1_told 4 = .ok (.iload_n 1, 1) := by decide +kernel
theorem dX1_told_5 : decode cX1_told 5 = .ok (.baload, 1) := by decide +kernel
theorem dX1_told_6 : decode cX1_told 6 = .ok (.ifCond .eq 7, 3) := by decide +kernel
theorem dX1_told_9 : decode cX1_told 9 = .ok (.iconst 1, 1) := by decide +kernel
theorem dX1_told_10 : decode cX1_told 10 = .ok (.goto 4, 3) := by decide +kernel
theorem dX1_told_13 : decode cX1_told 13 = .ok (.iconst 0, 1) := by decide +kernel
theorem dX1_told_14 : decode cX1_told 14 = .ok (.ireturn, 1) := by decide +kernel
theorem dX1_put_0 : decode cX1_put 0 = .ok (.aload_n 0, 1) := by decide +kernel
theorem dX1_put_1 : decode cX1_put 1 = .ok (.getfield 7, 3) := by decide +kernel
theorem dX1_put_4 : decode cX1_put 4 = .ok (.iload_n 1, 1) := by decide +kernel
theorem dX1_put_5 : decode cX1_put 5 = .ok (.iload_n 2, 1) := by decide +kernel
theorem dX1_put_6 : decode cX1_put 6 = .ok (.iconst 1, 1) := by decide +kernel
theorem dX1_put_7 : decode cX1_put 7 = .ok (.iand, 1) := by decide +kernel
theorem dX1_put_8 : decode cX1_put 8 = .ok (.iconst 1, 1) := by decide +kernel
theorem dX1_put_9 : decode cX1_put 9 = .ok (.if_icmp .ne 7, 3) := by decide +kernel
theorem dX1_put_12 : decode cX1_put 12 = .ok (.iconst 1, 1) := by decide +kernel
theorem dX1_put_13 : decode cX1_put 13 = .ok (.goto 4, 3) := by decide +kernel
theorem dX1_put_16 : decode cX1_put 16 = .ok (.iconst 0, 1) := by decide +kernel
theorem dX1_put_17 : decode cX1_put 17 = .ok (.bastore, 1) := by decide +kernel
theorem dX1_put_18 : decode cX1_put 18 = .ok (.return_, 1) := by decide +kernel
set_option maxRecDepth 20000 in
theorem ggX2_init_X3_init : GoodIn wsX2_init wsX3_init := goodIn_r _ [5, 6, 7, 8] (by decide +kernel) (by decide +kernel)
set_option maxRecDepth 20000 in
theorem gX2_init_X3_init_n1 : GoodIn wsX2_init (wsX3_init) := ggX2_init_X3_init
theorem dX2_init_0 : decode cX2_init 0 = .ok (.aload_n 0, 1) := by decide +kernel
theorem dX2_init_1 : decode cX2_init 1 = .ok (.invokespecial 1, 3) := by decide +kernel
theorem dX2_init_4 : decode cX2_init 4 = .ok (.aload_n 0, 1) := by decide +kernel
theorem dX2_init_5 : decode cX2_init 5 = .ok (.iload_n 1, 1) := by decide +kernel
theorem dX2_init_6 : decode cX2_init 6 = .ok (.newarray .char, 2) := by decide +kernel
theorem dX2_init_8 : decode cX2_init 8 = .ok (.putfield 7, 3) := by decide +kernel
theorem dX2_init_11 : decode cX2_init 11 = .ok (.return_, 1) := by decide +kernel
theorem dX2_places_0 : decode cX2_places 0 = .ok (.aload_n 0, 1) := by decide +kernel
theorem dX2_places_1 : decode cX2_places 1 = .ok (.getfield 7, 3) := by decide +kernel
theorem dX2_places_4 : decode cX2_places 4 = .ok (.arraylength, 1) := by decide +kernel
theorem dX2_places_5 : decode cX2_places 5 = .ok (.ireturn, 1) := by decide +kernel
theorem dX2_told_0 : decode cX2_told 0 = .ok (.aload_n 0, 1) := by decide +kernel
theorem dX2_told_1 : decode cX2_told 1 = .ok (.getfield 7, 3) := by decide +kernel
theorem dX2_told_4 : decode cX2_told 4 = .ok (.iload_n 1, 1) := by decide +kernel
theorem dX2_told_5 : decode cX2_told 5 = .ok (.caload, 1) := by decide +kernel
theorem dX2_told_6 : decode cX2_told 6 = .ok (.ireturn, 1) := by decide +kernel
theorem dX2_put_0 : decode cX2_put 0 = .ok (.aload_n 0, 1) := by decide +kernel
theorem dX2_put_1 : decode cX2_put 1 = .ok (.getfield 7, 3) := by decide +kernel
theorem dX2_put_4 : decode cX2_put 4 = .ok (.iload_n 1, 1) := by decide +kernel
theorem dX2_put_5 : decode cX2_put 5 = .ok (.iload_n 2, 1) := by decide +kernel
theorem dX2_put_6 : decode cX2_put 6 = .ok (.i2c, 1) := by decide +kernel
theorem dX2_put_7 : decode cX2_put 7 = .ok (.castore, 1) := by decide +kernel
theorem dX2_put_8 : decode cX2_put 8 = .ok (.return_, 1) := by decide +kernel
theorem dX3_init_0 : decode cX3_init 0 = .ok (.aload_n 0, 1) := by decide +kernel
theorem dX3_init_1 : decode cX3_init 1 = .ok (.invokespecial 3, 3) := by decide +kernel
theorem dX3_init_4 : decode cX3_init 4 = .ok (.return_, 1) := by decide +kernel
set_option maxRecDepth 20000 in
theorem ggX3_has_X0_places : GoodIn wsX3_has wsX0_places := goodIn_r _ [6, 7, 23] (by decide +kernel) (by decide +kernel)
set_option maxRecDepth 20000 in
theorem gX3_has_X0_places_u9X0 : GoodIn wsX3_has (va_wsU RX3 9 RX0 "ReelBarn$Reel" ⟨"ReelBarn$Reel", "places", "()I"⟩ yX0_places wsX0_places) := goodIn_app (goodIn_of _ (by decide +kernel)) ggX3_has_X0_places
set_option maxRecDepth 20000 in
theorem ggX3_has_X1_places : GoodIn wsX3_has wsX1_places := goodIn_r _ [11, 12, 24] (by decide +kernel) (by decide +kernel)
set_option maxRecDepth 20000 in
theorem gX3_has_X1_places_u9X1 : GoodIn wsX3_has (va_wsU RX3 9 RX1 "ReelBarn$Reel" ⟨"ReelBarn$Reel", "places", "()I"⟩ yX1_places wsX1_places) := goodIn_app (goodIn_of _ (by decide +kernel)) ggX3_has_X1_places
set_option maxRecDepth 20000 in
theorem ggX3_has_X2_places : GoodIn wsX3_has wsX2_places := goodIn_r _ [16, 17, 25] (by decide +kernel) (by decide +kernel)
set_option maxRecDepth 20000 in
theorem gX3_has_X2_places_u9X2 : GoodIn wsX3_has (va_wsU RX3 9 RX2 "ReelBarn$Reel" ⟨"ReelBarn$Reel", "places", "()I"⟩ yX2_places wsX2_places) := goodIn_app (goodIn_of _ (by decide +kernel)) ggX3_has_X2_places
set_option maxRecDepth 20000 in
theorem ggX3_has_X5_places : GoodIn wsX3_has wsX5_places := goodIn_r _ [21, 22, 26] (by decide +kernel) (by decide +kernel)
set_option maxRecDepth 20000 in
theorem gX3_has_X5_places_u9X5 : GoodIn wsX3_has (va_wsU RX3 9 RX5 "ReelBarn$Reel" ⟨"ReelBarn$Reel", "places", "()I"⟩ yX5_places wsX5_places) := goodIn_app (goodIn_of _ (by decide +kernel)) ggX3_has_X5_places
theorem dX3_has_0 : decode cX3_has 0 = .ok (.iload_n 1, 1) := by decide +kernel
theorem dX3_has_1 : decode cX3_has 1 = .ok (.ifCond .lt 15, 3) := by decide +kernel
theorem dX3_has_4 : decode cX3_has 4 = .ok (.iload_n 1, 1) := by decide +kernel
theorem dX3_has_5 : decode cX3_has 5 = .ok (.aload_n 0, 1) := by decide +kernel
theorem dX3_has_6 : decode cX3_has 6 = .ok (.invokevirtual 9, 3) := by decide +kernel
theorem dX3_has_9 : decode cX3_has 9 = .ok (.if_icmp .ge 7, 3) := by decide +kernel
theorem dX3_has_12 : decode cX3_has 12 = .ok (.iconst 1, 1) := by decide +kernel
theorem dX3_has_13 : decode cX3_has 13 = .ok (.goto 4, 3) := by decide +kernel
theorem dX3_has_16 : decode cX3_has 16 = .ok (.iconst 0, 1) := by decide +kernel
theorem dX3_has_17 : decode cX3_has 17 = .ok (.ireturn, 1) := by decide +kernel
set_option maxRecDepth 20000 in
theorem ggX3_change_X0_told : GoodIn wsX3_change wsX0_told := goodIn_r _ [6, 7, 8, 54] (by decide +kernel) (by decide +kernel)
set_option maxRecDepth 20000 in
theorem gX3_change_X0_told_u15X0 : GoodIn wsX3_change (va_wsU RX3 15 RX0 "ReelBarn$Reel" ⟨"ReelBarn$Reel", "told", "(I)I"⟩ yX0_told wsX0_told) := goodIn_app (goodIn_of _ (by decide +kernel)) ggX3_change_X0_told
set_option maxRecDepth 20000 in
theorem ggX3_change_X1_told : GoodIn wsX3_change wsX1_told := goodIn_r _ [12, 13, 55] (by decide +kernel) (by decide +kernel)
set_option maxRecDepth 20000 in
theorem gX3_change_X1_told_u15X1 : GoodIn wsX3_change (va_wsU RX3 15 RX1 "ReelBarn$Reel" ⟨"ReelBarn$Reel", "told", "(I)I"⟩ yX1_told wsX1_told) := goodIn_app (goodIn_of _ (by decide +kernel)) ggX3_change_X1_told
set_option maxRecDepth 20000 in
theorem ggX3_change_X2_told : GoodIn wsX3_change wsX2_told := goodIn_r _ [17, 18, 56] (by decide +kernel) (by decide +kernel)
set_option maxRecDepth 20000 in
theorem gX3_change_X2_told_u15X2 : GoodIn wsX3_change (va_wsU RX3 15 RX2 "ReelBarn$Reel" ⟨"ReelBarn$Reel", "told", "(I)I"⟩ yX2_told wsX2_told) := goodIn_app (goodIn_of _ (by decide +kernel)) ggX3_change_X2_told
set_option maxRecDepth 20000 in
theorem ggX3_change_X5_told : GoodIn wsX3_change wsX5_told := goodIn_r _ [22, 23, 57] (by decide +kernel) (by decide +kernel)
set_option maxRecDepth 20000 in
theorem gX3_change_X5_told_u15X5 : GoodIn wsX3_change (va_wsU RX3 15 RX5 "ReelBarn$Reel" ⟨"ReelBarn$Reel", "told", "(I)I"⟩ yX5_told wsX5_told) := goodIn_app (goodIn_of _ (by decide +kernel)) ggX3_change_X5_told
set_option maxRecDepth 20000 in
theorem ggX3_change_X3_reckon : GoodIn wsX3_change wsX3_reckon := goodIn_r _ [27] (by decide +kernel) (by decide +kernel)
set_option maxRecDepth 20000 in
theorem gX3_change_X3_reckon : GoodIn wsX3_change (va_wsS RX3 19 yX3_reckon wsX3_reckon) := goodIn_app (goodIn_of _ (by decide +kernel)) ggX3_change_X3_reckon
set_option maxRecDepth 20000 in
theorem ggX3_change_X0_put : GoodIn wsX3_change wsX0_put := goodIn_r _ [32, 33, 34, 5, 35, 8, 36, 37, 38, 39, 7, 40, 41, 42, 43, 44, 54] (by decide +kernel) (by decide +kernel)
set_option maxRecDepth 20000 in
theorem gX3_change_X0_put_u23X0 : GoodIn wsX3_change (va_wsU RX3 23 RX0 "ReelBarn$Reel" ⟨"ReelBarn$Reel", "put", "(II)V"⟩ yX0_put wsX0_put) := goodIn_app (goodIn_of _ (by decide +kernel)) ggX3_change_X0_put
set_option maxRecDepth 20000 in
theorem ggX3_change_X1_put : GoodIn wsX3_change wsX1_put := goodIn_r _ [47, 13, 55] (by decide +kernel) (by decide +kernel)
set_option maxRecDepth 20000 in
theorem gX3_change_X1_put_u23X1 : GoodIn wsX3_change (va_wsU RX3 23 RX1 "ReelBarn$Reel" ⟨"ReelBarn$Reel", "put", "(II)V"⟩ yX1_put wsX1_put) := goodIn_app (goodIn_of _ (by decide +kernel)) ggX3_change_X1_put
set_option maxRecDepth 20000 in
theorem ggX3_change_X2_put : GoodIn wsX3_change wsX2_put := goodIn_r _ [50, 18, 56] (by decide +kernel) (by decide +kernel)
set_option maxRecDepth 20000 in
theorem gX3_change_X2_put_u23X2 : GoodIn wsX3_change (va_wsU RX3 23 RX2 "ReelBarn$Reel" ⟨"ReelBarn$Reel", "put", "(II)V"⟩ yX2_put wsX2_put) := goodIn_app (goodIn_of _ (by decide +kernel)) ggX3_change_X2_put
set_option maxRecDepth 20000 in
theorem ggX3_change_X5_put : GoodIn wsX3_change wsX5_put := goodIn_r _ [53, 23, 57] (by decide +kernel) (by decide +kernel)
set_option maxRecDepth 20000 in
theorem gX3_change_X5_put_u23X5 : GoodIn wsX3_change (va_wsU RX3 23 RX5 "ReelBarn$Reel" ⟨"ReelBarn$Reel", "put", "(II)V"⟩ yX5_put wsX5_put) := goodIn_app (goodIn_of _ (by decide +kernel)) ggX3_change_X5_put
theorem dX3_change_0 : decode cX3_change 0 = .ok (.aload_n 0, 1) := by decide +kernel
theorem dX3_change_1 : decode cX3_change 1 = .ok (.iload_n 1, 1) := by decide +kernel
theorem dX3_change_2 : decode cX3_change 2 = .ok (.aload_n 0, 1) := by decide +kernel
theorem dX3_change_3 : decode cX3_change 3 = .ok (.iload_n 1, 1) := by decide +kernel
theorem dX3_change_4 : decode cX3_change 4 = .ok (.invokevirtual 15, 3) := by decide +kernel
theorem dX3_change_7 : decode cX3_change 7 = .ok (.iload_n 2, 1) := by decide +kernel
theorem dX3_change_8 : decode cX3_change 8 = .ok (.iload_n 3, 1) := by decide +kernel
theorem dX3_change_9 : decode cX3_change 9 = .ok (.invokestatic 19, 3) := by decide +kernel
theorem dX3_change_12 : decode cX3_change 12 = .ok (.invokevirtual 23, 3) := by decide +kernel
theorem dX3_change_15 : decode cX3_change 15 = .ok (.return_, 1) := by decide +kernel
set_option maxRecDepth 20000 in
theorem ggX3_stepUp_X0_told : GoodIn wsX3_stepUp wsX0_told := goodIn_r _ [6, 7, 8, 50] (by decide +kernel) (by decide +kernel)
set_option maxRecDepth 20000 in
theorem gX3_stepUp_X0_told_u15X0 : GoodIn wsX3_stepUp (va_wsU RX3 15 RX0 "ReelBarn$Reel" ⟨"ReelBarn$Reel", "told", "(I)I"⟩ yX0_told wsX0_told) := goodIn_app (goodIn_of _ (by decide +kernel)) ggX3_stepUp_X0_told
set_option maxRecDepth 20000 in
theorem ggX3_stepUp_X1_told : GoodIn wsX3_stepUp wsX1_told := goodIn_r _ [12, 13, 51] (by decide +kernel) (by decide +kernel)
set_option maxRecDepth 20000 in
theorem gX3_stepUp_X1_told_u15X1 : GoodIn wsX3_stepUp (va_wsU RX3 15 RX1 "ReelBarn$Reel" ⟨"ReelBarn$Reel", "told", "(I)I"⟩ yX1_told wsX1_told) := goodIn_app (goodIn_of _ (by decide +kernel)) ggX3_stepUp_X1_told
set_option maxRecDepth 20000 in
theorem ggX3_stepUp_X2_told : GoodIn wsX3_stepUp wsX2_told := goodIn_r _ [17, 18, 52] (by decide +kernel) (by decide +kernel)
set_option maxRecDepth 20000 in
theorem gX3_stepUp_X2_told_u15X2 : GoodIn wsX3_stepUp (va_wsU RX3 15 RX2 "ReelBarn$Reel" ⟨"ReelBarn$Reel", "told", "(I)I"⟩ yX2_told wsX2_told) := goodIn_app (goodIn_of _ (by decide +kernel)) ggX3_stepUp_X2_told
set_option maxRecDepth 20000 in
theorem ggX3_stepUp_X5_told : GoodIn wsX3_stepUp wsX5_told := goodIn_r _ [22, 23, 53] (by decide +kernel) (by decide +kernel)
set_option maxRecDepth 20000 in
theorem gX3_stepUp_X5_told_u15X5 : GoodIn wsX3_stepUp (va_wsU RX3 15 RX5 "ReelBarn$Reel" ⟨"ReelBarn$Reel", "told", "(I)I"⟩ yX5_told wsX5_told) := goodIn_app (goodIn_of _ (by decide +kernel)) ggX3_stepUp_X5_told
set_option maxRecDepth 20000 in
theorem ggX3_stepUp_X0_put : GoodIn wsX3_stepUp wsX0_put := goodIn_r _ [28, 29, 30, 5, 31, 8, 32, 33, 34, 35, 7, 36, 37, 38, 39, 40, 50] (by decide +kernel) (by decide +kernel)
set_option maxRecDepth 20000 in
theorem gX3_stepUp_X0_put_u23X0 : GoodIn wsX3_stepUp (va_wsU RX3 23 RX0 "ReelBarn$Reel" ⟨"ReelBarn$Reel", "put", "(II)V"⟩ yX0_put wsX0_put) := goodIn_app (goodIn_of _ (by decide +kernel)) ggX3_stepUp_X0_put
set_option maxRecDepth 20000 in
theorem ggX3_stepUp_X1_put : GoodIn wsX3_stepUp wsX1_put := goodIn_r _ [43, 13, 51] (by decide +kernel) (by decide +kernel)
set_option maxRecDepth 20000 in
theorem gX3_stepUp_X1_put_u23X1 : GoodIn wsX3_stepUp (va_wsU RX3 23 RX1 "ReelBarn$Reel" ⟨"ReelBarn$Reel", "put", "(II)V"⟩ yX1_put wsX1_put) := goodIn_app (goodIn_of _ (by decide +kernel)) ggX3_stepUp_X1_put
set_option maxRecDepth 20000 in
theorem ggX3_stepUp_X2_put : GoodIn wsX3_stepUp wsX2_put := goodIn_r _ [46, 18, 52] (by decide +kernel) (by decide +kernel)
set_option maxRecDepth 20000 in
theorem gX3_stepUp_X2_put_u23X2 : GoodIn wsX3_stepUp (va_wsU RX3 23 RX2 "ReelBarn$Reel" ⟨"ReelBarn$Reel", "put", "(II)V"⟩ yX2_put wsX2_put) := goodIn_app (goodIn_of _ (by decide +kernel)) ggX3_stepUp_X2_put
set_option maxRecDepth 20000 in
theorem ggX3_stepUp_X5_put : GoodIn wsX3_stepUp wsX5_put := goodIn_r _ [49, 23, 53] (by decide +kernel) (by decide +kernel)
set_option maxRecDepth 20000 in
theorem gX3_stepUp_X5_put_u23X5 : GoodIn wsX3_stepUp (va_wsU RX3 23 RX5 "ReelBarn$Reel" ⟨"ReelBarn$Reel", "put", "(II)V"⟩ yX5_put wsX5_put) := goodIn_app (goodIn_of _ (by decide +kernel)) ggX3_stepUp_X5_put
theorem dX3_stepUp_0 : decode cX3_stepUp 0 = .ok (.aload_n 0, 1) := by decide +kernel
theorem dX3_stepUp_1 : decode cX3_stepUp 1 = .ok (.iload_n 1, 1) := by decide +kernel
theorem dX3_stepUp_2 : decode cX3_stepUp 2 = .ok (.aload_n 0, 1) := by decide +kernel
theorem dX3_stepUp_3 : decode cX3_stepUp 3 = .ok (.iload_n 1, 1) := by decide +kernel
theorem dX3_stepUp_4 : decode cX3_stepUp 4 = .ok (.invokevirtual 15, 3) := by decide +kernel
theorem dX3_stepUp_7 : decode cX3_stepUp 7 = .ok (.iconst 1, 1) := by decide +kernel
theorem dX3_stepUp_8 : decode cX3_stepUp 8 = .ok (.iadd, 1) := by decide +kernel
theorem dX3_stepUp_9 : decode cX3_stepUp 9 = .ok (.invokevirtual 23, 3) := by decide +kernel
theorem dX3_stepUp_12 : decode cX3_stepUp 12 = .ok (.return_, 1) := by decide +kernel
set_option maxRecDepth 20000 in
theorem ggX3_level_X0_told : GoodIn wsX3_level wsX0_told := goodIn_r _ [6, 7, 8, 24] (by decide +kernel) (by decide +kernel)
set_option maxRecDepth 20000 in
theorem gX3_level_X0_told_u15X0 : GoodIn wsX3_level (va_wsU RX3 15 RX0 "ReelBarn$Reel" ⟨"ReelBarn$Reel", "told", "(I)I"⟩ yX0_told wsX0_told) := goodIn_app (goodIn_of _ (by decide +kernel)) ggX3_level_X0_told
set_option maxRecDepth 20000 in
theorem ggX3_level_X1_told : GoodIn wsX3_level wsX1_told := goodIn_r _ [12, 13, 25] (by decide +kernel) (by decide +kernel)
set_option maxRecDepth 20000 in
theorem gX3_level_X1_told_u15X1 : GoodIn wsX3_level (va_wsU RX3 15 RX1 "ReelBarn$Reel" ⟨"ReelBarn$Reel", "told", "(I)I"⟩ yX1_told wsX1_told) := goodIn_app (goodIn_of _ (by decide +kernel)) ggX3_level_X1_told
set_option maxRecDepth 20000 in
theorem ggX3_level_X2_told : GoodIn wsX3_level wsX2_told := goodIn_r _ [17, 18, 26] (by decide +kernel) (by decide +kernel)
set_option maxRecDepth 20000 in
theorem gX3_level_X2_told_u15X2 : GoodIn wsX3_level (va_wsU RX3 15 RX2 "ReelBarn$Reel" ⟨"ReelBarn$Reel", "told", "(I)I"⟩ yX2_told wsX2_told) := goodIn_app (goodIn_of _ (by decide +kernel)) ggX3_level_X2_told
set_option maxRecDepth 20000 in
theorem ggX3_level_X5_told : GoodIn wsX3_level wsX5_told := goodIn_r _ [22, 23, 27] (by decide +kernel) (by decide +kernel)
set_option maxRecDepth 20000 in
theorem gX3_level_X5_told_u15X5 : GoodIn wsX3_level (va_wsU RX3 15 RX5 "ReelBarn$Reel" ⟨"ReelBarn$Reel", "told", "(I)I"⟩ yX5_told wsX5_told) := goodIn_app (goodIn_of _ (by decide +kernel)) ggX3_level_X5_told
theorem dX3_level_0 : decode cX3_level 0 = .ok (.aload_n 0, 1) := by decide +kernel
theorem dX3_level_1 : decode cX3_level 1 = .ok (.iload_n 1, 1) := by decide +kernel
theorem dX3_level_2 : decode cX3_level 2 = .ok (.invokevirtual 15, 3) := by decide +kernel
theorem dX3_level_5 : decode cX3_level 5 = .ok (.i2f, 1) := by decide +kernel
theorem dX3_level_6 : decode cX3_level 6 = .ok (.freturn, 1) := by decide +kernel
set_option maxRecDepth 20000 in
theorem ggX3_putLevel_X0_put : GoodIn wsX3_putLevel wsX0_put := goodIn_r _ [6, 7, 8, 5, 9, 10, 11, 12, 13, 14, 15, 16, 17, 18, 19, 20, 36] (by decide +kernel) (by decide +kernel)
set_option maxRecDepth 20000 in
theorem gX3_putLevel_X0_put_u23X0 : GoodIn wsX3_putLevel (va_wsU RX3 23 RX0 "ReelBarn$Reel" ⟨"ReelBarn$Reel", "put", "(II)V"⟩ yX0_put wsX0_put) := goodIn_app (goodIn_of _ (by decide +kernel)) ggX3_putLevel_X0_put
set_option maxRecDepth 20000 in
theorem ggX3_putLevel_X1_put : GoodIn wsX3_putLevel wsX1_put := goodIn_r _ [24, 25, 37] (by decide +kernel) (by decide +kernel)
set_option maxRecDepth 20000 in
theorem gX3_putLevel_X1_put_u23X1 : GoodIn wsX3_putLevel (va_wsU RX3 23 RX1 "ReelBarn$Reel" ⟨"ReelBarn$Reel", "put", "(II)V"⟩ yX1_put wsX1_put) := goodIn_app (goodIn_of _ (by decide +kernel)) ggX3_putLevel_X1_put
set_option maxRecDepth 20000 in
theorem ggX3_putLevel_X2_put : GoodIn wsX3_putLevel wsX2_put := goodIn_r _ [29, 30, 38] (by decide +kernel) (by decide +kernel)
set_option maxRecDepth 20000 in
theorem gX3_putLevel_X2_put_u23X2 : GoodIn wsX3_putLevel (va_wsU RX3 23 RX2 "ReelBarn$Reel" ⟨"ReelBarn$Reel", "put", "(II)V"⟩ yX2_put wsX2_put) := goodIn_app (goodIn_of _ (by decide +kernel)) ggX3_putLevel_X2_put
set_option maxRecDepth 20000 in
theorem ggX3_putLevel_X5_put : GoodIn wsX3_putLevel wsX5_put := goodIn_r _ [34, 35, 39] (by decide +kernel) (by decide +kernel)
set_option maxRecDepth 20000 in
theorem gX3_putLevel_X5_put_u23X5 : GoodIn wsX3_putLevel (va_wsU RX3 23 RX5 "ReelBarn$Reel" ⟨"ReelBarn$Reel", "put", "(II)V"⟩ yX5_put wsX5_put) := goodIn_app (goodIn_of _ (by decide +kernel)) ggX3_putLevel_X5_put
theorem dX3_putLevel_0 : decode cX3_putLevel 0 = .ok (.aload_n 0, 1) := by decide +kernel
theorem dX3_putLevel_1 : decode cX3_putLevel 1 = .ok (.iload_n 1, 1) := by decide +kernel
theorem dX3_putLevel_2 : decode cX3_putLevel 2 = .ok (.fload_n 2, 1) := by decide +kernel
theorem dX3_putLevel_3 : decode cX3_putLevel 3 = .ok (.f2i, 1) := by decide +kernel
theorem dX3_putLevel_4 : decode cX3_putLevel 4 = .ok (.invokevirtual 23, 3) := by decide +kernel
theorem dX3_putLevel_7 : decode cX3_putLevel 7 = .ok (.return_, 1) := by decide +kernel
theorem dX3_reckon_0 : decode cX3_reckon 0 = .ok (.iload_n 1, 1) := by decide +kernel
theorem dX3_reckon_1 : decode cX3_reckon 1 = .ok (.tableswitch 85 0 7 #[47, 51, 55, 59, 63, 70, 77, 81], 47) := by decide +kernel
theorem dX3_reckon_48 : decode cX3_reckon 48 = .ok (.iload_n 0, 1) := by decide +kernel
theorem dX3_reckon_49 : decode cX3_reckon 49 = .ok (.iload_n 2, 1) := by decide +kernel
theorem dX3_reckon_50 : decode cX3_reckon 50 = .ok (.iadd, 1) := by decide +kernel
theorem dX3_reckon_51 : decode cX3_reckon 51 = .ok (.ireturn, 1) := by decide +kernel
theorem dX3_reckon_52 : decode cX3_reckon 52 = .ok (.iload_n 0, 1) := by decide +kernel
theorem dX3_reckon_53 : decode cX3_reckon 53 = .ok (.iload_n 2, 1) := by decide +kernel
theorem dX3_reckon_54 : decode cX3_reckon 54 = .ok (.isub, 1) := by decide +kernel
theorem dX3_reckon_55 : decode cX3_reckon 55 = .ok (.ireturn, 1) := by decide +kernel
theorem dX3_reckon_56 : decode cX3_reckon 56 = .ok (.iload_n 0, 1) := by decide +kernel
theorem dX3_reckon_57 : decode cX3_reckon 57 = .ok (.iload_n 2, 1) := by decide +kernel
theorem dX3_reckon_58 : decode cX3_reckon 58 = .ok (.imul, 1) := by decide +kernel
theorem dX3_reckon_59 : decode cX3_reckon 59 = .ok (.ireturn, 1) := by decide +kernel
theorem dX3_reckon_60 : decode cX3_reckon 60 = .ok (.iload_n 0, 1) := by decide +kernel
theorem dX3_reckon_61 : decode cX3_reckon 61 = .ok (.iload_n 2, 1) := by decide +kernel
theorem dX3_reckon_62 : decode cX3_reckon 62 = .ok (.idiv, 1) := by decide +kernel
theorem dX3_reckon_63 : decode cX3_reckon 63 = .ok (.ireturn, 1) := by decide +kernel
theorem dX3_reckon_64 : decode cX3_reckon 64 = .ok (.iload_n 0, 1) := by decide +kernel
theorem dX3_reckon_65 : decode cX3_reckon 65 = .ok (.iload_n 2, 1) := by decide +kernel
theorem dX3_reckon_66 : decode cX3_reckon 66 = .ok (.bipush 31, 2) := by decide +kernel
theorem dX3_reckon_68 : decode cX3_reckon 68 = .ok (.iand, 1) := by decide +kernel
theorem dX3_reckon_69 : decode cX3_reckon 69 = .ok (.ishl, 1) := by decide +kernel
theorem dX3_reckon_70 : decode cX3_reckon 70 = .ok (.ireturn, 1) := by decide +kernel
theorem dX3_reckon_71 : decode cX3_reckon 71 = .ok (.iload_n 0, 1) := by decide +kernel
theorem dX3_reckon_72 : decode cX3_reckon 72 = .ok (.iload_n 2, 1) := by decide +kernel
theorem dX3_reckon_73 : decode cX3_reckon 73 = .ok (.bipush 31, 2) := by decide +kernel
theorem dX3_reckon_75 : decode cX3_reckon 75 = .ok (.iand, 1) := by decide +kernel
theorem dX3_reckon_76 : decode cX3_reckon 76 = .ok (.iushr, 1) := by decide +kernel
theorem dX3_reckon_77 : decode cX3_reckon 77 = .ok (.ireturn, 1) := by decide +kernel
theorem dX3_reckon_78 : decode cX3_reckon 78 = .ok (.iload_n 0, 1) := by decide +kernel
theorem dX3_reckon_79 : decode cX3_reckon 79 = .ok (.iload_n 2, 1) := by decide +kernel
theorem dX3_reckon_80 : decode cX3_reckon 80 = .ok (.ixor, 1) := by decide +kernel
theorem dX3_reckon_81 : decode cX3_reckon 81 = .ok (.ireturn, 1) := by decide +kernel
theorem dX3_reckon_82 : decode cX3_reckon 82 = .ok (.iload_n 0, 1) := by decide +kernel
theorem dX3_reckon_83 : decode cX3_reckon 83 = .ok (.iload_n 2, 1) := by decide +kernel
theorem dX3_reckon_84 : decode cX3_reckon 84 = .ok (.iand, 1) := by decide +kernel
theorem dX3_reckon_85 : decode cX3_reckon 85 = .ok (.ireturn, 1) := by decide +kernel
theorem dX3_reckon_86 : decode cX3_reckon 86 = .ok (.iload_n 0, 1) := by decide +kernel
theorem dX3_reckon_87 : decode cX3_reckon 87 = .ok (.iload_n 2, 1) := by decide +kernel
theorem dX3_reckon_88 : decode cX3_reckon 88 = .ok (.ior, 1) := by decide +kernel
theorem dX3_reckon_89 : decode cX3_reckon 89 = .ok (.ireturn, 1) := by decide +kernel
theorem dX4_init_0 : decode cX4_init 0 = .ok (.aload_n 0, 1) := by decide +kernel
theorem dX4_init_1 : decode cX4_init 1 = .ok (.invokespecial 1, 3) := by decide +kernel
theorem dX4_init_4 : decode cX4_init 4 = .ok (.aload_n 0, 1) := by decide +kernel
theorem dX4_init_5 : decode cX4_init 5 = .ok (.iload_n 1, 1) := by decide +kernel
theorem dX4_init_6 : decode cX4_init 6 = .ok (.anewarray 7, 3) := by decide +kernel
theorem dX4_init_9 : decode cX4_init 9 = .ok (.putfield 9, 3) := by decide +kernel
theorem dX4_init_12 : decode cX4_init 12 = .ok (.return_, 1) := by decide +kernel
set_option maxRecDepth 20000 in
theorem ggX5_init_X3_init : GoodIn wsX5_init wsX3_init := goodIn_r _ [5, 6, 7, 8] (by decide +kernel) (by decide +kernel)
set_option maxRecDepth 20000 in
theorem gX5_init_X3_init_n1 : GoodIn wsX5_init (wsX3_init) := ggX5_init_X3_init
theorem dX5_init_0 : decode cX5_init 0 = .ok (.aload_n 0, 1) := by decide +kernel
theorem dX5_init_1 : decode cX5_init 1 = .ok (.invokespecial 1, 3) := by decide +kernel
theorem dX5_init_4 : decode cX5_init 4 = .ok (.aload_n 0, 1) := by decide +kernel
theorem dX5_init_5 : decode cX5_init 5 = .ok (.iload_n 1, 1) := by decide +kernel
theorem dX5_init_6 : decode cX5_init 6 = .ok (.newarray .short, 2) := by decide +kernel
theorem dX5_init_8 : decode cX5_init 8 = .ok (.putfield 7, 3) := by decide +kernel
theorem dX5_init_11 : decode cX5_init 11 = .ok (.return_, 1) := by decide +kernel
theorem dX5_places_0 : decode cX5_places 0 = .ok (.aload_n 0, 1) := by decide +kernel
theorem dX5_places_1 : decode cX5_places 1 = .ok (.getfield 7, 3) := by decide +kernel
theorem dX5_places_4 : decode cX5_places 4 = .ok (.arraylength, 1) := by decide +kernel
theorem dX5_places_5 : decode cX5_places 5 = .ok (.ireturn, 1) := by decide +kernel
theorem dX5_told_0 : decode cX5_told 0 = .ok (.aload_n 0, 1) := by decide +kernel
theorem dX5_told_1 : decode cX5_told 1 = .ok (.getfield 7, 3) := by decide +kernel
theorem dX5_told_4 : decode cX5_told 4 = .ok (.iload_n 1, 1) := by decide +kernel
theorem dX5_told_5 : decode cX5_told 5 = .ok (.saload, 1) := by decide +kernel
theorem dX5_told_6 : decode cX5_told 6 = .ok (.ireturn, 1) := by decide +kernel
theorem dX5_put_0 : decode cX5_put 0 = .ok (.aload_n 0, 1) := by decide +kernel
theorem dX5_put_1 : decode cX5_put 1 = .ok (.getfield 7, 3) := by decide +kernel
theorem dX5_put_4 : decode cX5_put 4 = .ok (.iload_n 1, 1) := by decide +kernel
theorem dX5_put_5 : decode cX5_put 5 = .ok (.iload_n 2, 1) := by decide +kernel
theorem dX5_put_6 : decode cX5_put 6 = .ok (.i2s, 1) := by decide +kernel
theorem dX5_put_7 : decode cX5_put 7 = .ok (.sastore, 1) := by decide +kernel
theorem dX5_put_8 : decode cX5_put 8 = .ok (.return_, 1) := by decide +kernel
