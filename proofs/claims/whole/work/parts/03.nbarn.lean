theorem dX6_init_0 : decode cX6_init 0 = .ok (.aload_n 0, 1) := by decide +kernel
theorem dX6_init_1 : decode cX6_init 1 = .ok (.invokespecial 1, 3) := by decide +kernel
theorem dX6_init_4 : decode cX6_init 4 = .ok (.aload_n 0, 1) := by decide +kernel
theorem dX6_init_5 : decode cX6_init 5 = .ok (.bipush 16, 2) := by decide +kernel
theorem dX6_init_7 : decode cX6_init 7 = .ok (.anewarray 9, 3) := by decide +kernel
theorem dX6_init_10 : decode cX6_init 10 = .ok (.putfield 11, 3) := by decide +kernel
theorem dX6_init_13 : decode cX6_init 13 = .ok (.aload_n 0, 1) := by decide +kernel
theorem dX6_init_14 : decode cX6_init 14 = .ok (.iconst 4, 1) := by decide +kernel
theorem dX6_init_15 : decode cX6_init 15 = .ok (.anewarray 15, 3) := by decide +kernel
theorem dX6_init_18 : decode cX6_init 18 = .ok (.putfield 17, 3) := by decide +kernel
theorem dX6_init_21 : decode cX6_init 21 = .ok (.aload_n 0, 1) := by decide +kernel
theorem dX6_init_22 : decode cX6_init 22 = .ok (.bipush 8, 2) := by decide +kernel
theorem dX6_init_24 : decode cX6_init 24 = .ok (.newarray .int, 2) := by decide +kernel
theorem dX6_init_26 : decode cX6_init 26 = .ok (.putfield 21, 3) := by decide +kernel
theorem dX6_init_29 : decode cX6_init 29 = .ok (.aload_n 0, 1) := by decide +kernel
theorem dX6_init_30 : decode cX6_init 30 = .ok (.aconst_null, 1) := by decide +kernel
theorem dX6_init_31 : decode cX6_init 31 = .ok (.putfield 25, 3) := by decide +kernel
theorem dX6_init_34 : decode cX6_init 34 = .ok (.return_, 1) := by decide +kernel
set_option maxRecDepth 20000 in
theorem ggX6_mount_X6_isDeck : GoodIn wsX6_mount wsX6_isDeck := goodIn_r _ [7] (by decide +kernel) (by decide +kernel)
set_option maxRecDepth 20000 in
theorem gX6_mount_X6_isDeck : GoodIn wsX6_mount (va_wsS RX6 29 yX6_isDeck wsX6_isDeck) := goodIn_app (goodIn_of _ (by decide +kernel)) ggX6_mount_X6_isDeck
set_option maxRecDepth 20000 in
theorem ggX6_mount_X6_isSort : GoodIn wsX6_mount wsX6_isSort := goodIn_r _ [10] (by decide +kernel) (by decide +kernel)
set_option maxRecDepth 20000 in
theorem gX6_mount_X6_isSort : GoodIn wsX6_mount (va_wsS RX6 33 yX6_isSort wsX6_isSort) := goodIn_app (goodIn_of _ (by decide +kernel)) ggX6_mount_X6_isSort
set_option maxRecDepth 20000 in
theorem ggX6_mount_X6_refuse : GoodIn wsX6_mount wsX6_refuse := goodIn_r _ [14, 15, 62, 63, 64, 65] (by decide +kernel) (by decide +kernel)
set_option maxRecDepth 20000 in
theorem gX6_mount_X6_refuse : GoodIn wsX6_mount (wsV RX6 38 RX6 yX6_refuse wsX6_refuse) := goodIn_app (goodIn_of _ (by decide +kernel)) ggX6_mount_X6_refuse
set_option maxRecDepth 20000 in
theorem ggX6_mount_X6_newReel : GoodIn wsX6_mount wsX6_newReel := goodIn_r _ [18, 19, 20, 21, 22, 23, 24, 25, 26, 27, 28, 29, 30, 31, 32, 33, 34, 35, 36, 37, 38, 39, 40, 41, 42, 43, 44, 45, 46, 47, 48, 49, 50, 51, 52, 53, 54, 55, 56, 66, 67, 68, 69] (by decide +kernel) (by decide +kernel)
set_option maxRecDepth 20000 in
theorem gX6_mount_X6_newReel : GoodIn wsX6_mount (va_wsS RX6 46 yX6_newReel wsX6_newReel) := goodIn_app (goodIn_of _ (by decide +kernel)) ggX6_mount_X6_newReel
set_option maxRecDepth 20000 in
theorem ggX6_mount_X6_carry : GoodIn wsX6_mount wsX6_carry := goodIn_r _ [60, 61, 62, 63, 64, 65] (by decide +kernel) (by decide +kernel)
set_option maxRecDepth 20000 in
theorem gX6_mount_X6_carry : GoodIn wsX6_mount (wsV RX6 50 RX6 yX6_carry wsX6_carry) := goodIn_app (goodIn_of _ (by decide +kernel)) ggX6_mount_X6_carry
theorem dX6_mount_0 : decode cX6_mount 0 = .ok (.iload_n 1, 1) := by decide +kernel
theorem dX6_mount_1 : decode cX6_mount 1 = .ok (.invokestatic 29, 3) := by decide +kernel
theorem dX6_mount_4 : decode cX6_mount 4 = .ok (.ifCond .eq 10, 3) := by decide +kernel
theorem dX6_mount_7 : decode cX6_mount 7 = .ok (.iload_n 2, 1) := by decide +kernel
theorem dX6_mount_8 : decode cX6_mount 8 = .ok (.invokestatic 33, 3) := by decide +kernel
theorem dX6_mount_11 : decode cX6_mount 11 = .ok (.ifCond .ne 11, 3) := by decide +kernel
theorem dX6_mount_14 : decode cX6_mount 14 = .ok (.aload_n 0, 1) := by decide +kernel
theorem dX6_mount_15 : decode cX6_mount 15 = .ok (.ldc2_w 36, 3) := by decide +kernel
theorem dX6_mount_18 : decode cX6_mount 18 = .ok (.invokevirtual 38, 3) := by decide +kernel
theorem dX6_mount_21 : decode cX6_mount 21 = .ok (.lreturn, 1) := by decide +kernel
theorem dX6_mount_22 : decode cX6_mount 22 = .ok (.iload_n 3, 1) := by decide +kernel
theorem dX6_mount_23 : decode cX6_mount 23 = .ok (.bipush 40, 2) := by decide +kernel
theorem dX6_mount_25 : decode cX6_mount 25 = .ok (.if_icmp .le 11, 3) := by decide +kernel
theorem dX6_mount_28 : decode cX6_mount 28 = .ok (.aload_n 0, 1) := by decide +kernel
theorem dX6_mount_29 : decode cX6_mount 29 = .ok (.ldc2_w 42, 3) := by decide +kernel
theorem dX6_mount_32 : decode cX6_mount 32 = .ok (.invokevirtual 38, 3) := by decide +kernel
theorem dX6_mount_35 : decode cX6_mount 35 = .ok (.lreturn, 1) := by decide +kernel
theorem dX6_mount_36 : decode cX6_mount 36 = .ok (.iload_n 3, 1) := by decide +kernel
theorem dX6_mount_37 : decode cX6_mount 37 = .ok (.ifCond .ge 11, 3) := by decide +kernel
theorem dX6_mount_40 : decode cX6_mount 40 = .ok (.aload_n 0, 1) := by decide +kernel
theorem dX6_mount_41 : decode cX6_mount 41 = .ok (.ldc2_w 44, 3) := by decide +kernel
theorem dX6_mount_44 : decode cX6_mount 44 = .ok (.invokevirtual 38, 3) := by decide +kernel
theorem dX6_mount_47 : decode cX6_mount 47 = .ok (.lreturn, 1) := by decide +kernel
theorem dX6_mount_48 : decode cX6_mount 48 = .ok (.aload_n 0, 1) := by decide +kernel
theorem dX6_mount_49 : decode cX6_mount 49 = .ok (.iload_n 1, 1) := by decide +kernel
theorem dX6_mount_50 : decode cX6_mount 50 = .ok (.iload_n 2, 1) := by decide +kernel
theorem dX6_mount_51 : decode cX6_mount 51 = .ok (.iload_n 2, 1) := by decide +kernel
theorem dX6_mount_52 : decode cX6_mount 52 = .ok (.iload_n 3, 1) := by decide +kernel
theorem dX6_mount_53 : decode cX6_mount 53 = .ok (.invokestatic 46, 3) := by decide +kernel
theorem dX6_mount_56 : decode cX6_mount 56 = .ok (.invokevirtual 50, 3) := by decide +kernel
theorem dX6_mount_59 : decode cX6_mount 59 = .ok (.iload_n 3, 1) := by decide +kernel
theorem dX6_mount_60 : decode cX6_mount 60 = .ok (.i2l, 1) := by decide +kernel
theorem dX6_mount_61 : decode cX6_mount 61 = .ok (.lreturn, 1) := by decide +kernel
set_option maxRecDepth 20000 in
theorem ggX6_eject_X6_reelFault : GoodIn wsX6_eject wsX6_reelFault := goodIn_r _ [5, 6, 7, 8, 9, 4, 10, 11, 12, 13, 14, 15, 16, 17, 18, 50, 51, 52, 53] (by decide +kernel) (by decide +kernel)
set_option maxRecDepth 20000 in
theorem gX6_eject_X6_reelFault : GoodIn wsX6_eject (wsV RX6 54 RX6 yX6_reelFault wsX6_reelFault) := goodIn_app (goodIn_of _ (by decide +kernel)) ggX6_eject_X6_reelFault
set_option maxRecDepth 20000 in
theorem ggX6_eject_X6_refuse : GoodIn wsX6_eject wsX6_refuse := goodIn_r _ [22, 23, 50, 51, 52, 53] (by decide +kernel) (by decide +kernel)
set_option maxRecDepth 20000 in
theorem gX6_eject_X6_refuse : GoodIn wsX6_eject (wsV RX6 38 RX6 yX6_refuse wsX6_refuse) := goodIn_app (goodIn_of _ (by decide +kernel)) ggX6_eject_X6_refuse
set_option maxRecDepth 20000 in
theorem ggX6_eject_X6_reelOn : GoodIn wsX6_eject wsX6_reelOn := goodIn_r _ [17, 18, 50, 51, 52, 53] (by decide +kernel) (by decide +kernel)
set_option maxRecDepth 20000 in
theorem gX6_eject_X6_reelOn : GoodIn wsX6_eject (wsV RX6 58 RX6 yX6_reelOn wsX6_reelOn) := goodIn_app (goodIn_of _ (by decide +kernel)) ggX6_eject_X6_reelOn
set_option maxRecDepth 20000 in
theorem ggX6_eject_X0_places : GoodIn wsX6_eject wsX0_places := goodIn_r _ [29, 30, 54] (by decide +kernel) (by decide +kernel)
set_option maxRecDepth 20000 in
theorem gX6_eject_X0_places_u61X0 : GoodIn wsX6_eject (va_wsU RX6 61 RX0 "ReelBarn$Reel" ⟨"ReelBarn$Reel", "places", "()I"⟩ yX0_places wsX0_places) := goodIn_app (goodIn_of _ (by decide +kernel)) ggX6_eject_X0_places
set_option maxRecDepth 20000 in
theorem ggX6_eject_X1_places : GoodIn wsX6_eject wsX1_places := goodIn_r _ [34, 35, 55] (by decide +kernel) (by decide +kernel)
set_option maxRecDepth 20000 in
theorem gX6_eject_X1_places_u61X1 : GoodIn wsX6_eject (va_wsU RX6 61 RX1 "ReelBarn$Reel" ⟨"ReelBarn$Reel", "places", "()I"⟩ yX1_places wsX1_places) := goodIn_app (goodIn_of _ (by decide +kernel)) ggX6_eject_X1_places
set_option maxRecDepth 20000 in
theorem ggX6_eject_X2_places : GoodIn wsX6_eject wsX2_places := goodIn_r _ [39, 40, 56] (by decide +kernel) (by decide +kernel)
set_option maxRecDepth 20000 in
theorem gX6_eject_X2_places_u61X2 : GoodIn wsX6_eject (va_wsU RX6 61 RX2 "ReelBarn$Reel" ⟨"ReelBarn$Reel", "places", "()I"⟩ yX2_places wsX2_places) := goodIn_app (goodIn_of _ (by decide +kernel)) ggX6_eject_X2_places
set_option maxRecDepth 20000 in
theorem ggX6_eject_X5_places : GoodIn wsX6_eject wsX5_places := goodIn_r _ [44, 45, 57] (by decide +kernel) (by decide +kernel)
set_option maxRecDepth 20000 in
theorem gX6_eject_X5_places_u61X5 : GoodIn wsX6_eject (va_wsU RX6 61 RX5 "ReelBarn$Reel" ⟨"ReelBarn$Reel", "places", "()I"⟩ yX5_places wsX5_places) := goodIn_app (goodIn_of _ (by decide +kernel)) ggX6_eject_X5_places
set_option maxRecDepth 20000 in
theorem ggX6_eject_X6_carry : GoodIn wsX6_eject wsX6_carry := goodIn_r _ [49, 18, 50, 51, 52, 53] (by decide +kernel) (by decide +kernel)
set_option maxRecDepth 20000 in
theorem gX6_eject_X6_carry : GoodIn wsX6_eject (wsV RX6 50 RX6 yX6_carry wsX6_carry) := goodIn_app (goodIn_of _ (by decide +kernel)) ggX6_eject_X6_carry
theorem dX6_eject_0 : decode cX6_eject 0 = .ok (.aload_n 0, 1) := by decide +kernel
theorem dX6_eject_1 : decode cX6_eject 1 = .ok (.iload_n 1, 1) := by decide +kernel
theorem dX6_eject_2 : decode cX6_eject 2 = .ok (.iload_n 2, 1) := by decide +kernel
theorem dX6_eject_3 : decode cX6_eject 3 = .ok (.invokevirtual 54, 3) := by decide +kernel
theorem dX6_eject_6 : decode cX6_eject 6 = .ok (.lstore_n 3, 1) := by decide +kernel
theorem dX6_eject_7 : decode cX6_eject 7 = .ok (.lload_n 3, 1) := by decide +kernel
theorem dX6_eject_8 : decode cX6_eject 8 = .ok (.lconst 0, 1) := by decide +kernel
theorem dX6_eject_9 : decode cX6_eject 9 = .ok (.lcmp, 1) := by decide +kernel
theorem dX6_eject_10 : decode cX6_eject 10 = .ok (.ifCond .eq 9, 3) := by decide +kernel
theorem dX6_eject_13 : decode cX6_eject 13 = .ok (.aload_n 0, 1) := by decide +kernel
theorem dX6_eject_14 : decode cX6_eject 14 = .ok (.lload_n 3, 1) := by decide +kernel
theorem dX6_eject_15 : decode cX6_eject 15 = .ok (.invokevirtual 38, 3) := by decide +kernel
theorem dX6_eject_18 : decode cX6_eject 18 = .ok (.lreturn, 1) := by decide +kernel
theorem dX6_eject_19 : decode cX6_eject 19 = .ok (.aload_n 0, 1) := by decide +kernel
theorem dX6_eject_20 : decode cX6_eject 20 = .ok (.iload_n 1, 1) := by decide +kernel
theorem dX6_eject_21 : decode cX6_eject 21 = .ok (.iload_n 2, 1) := by decide +kernel
theorem dX6_eject_22 : decode cX6_eject 22 = .ok (.invokevirtual 58, 3) := by decide +kernel
theorem dX6_eject_25 : decode cX6_eject 25 = .ok (.invokevirtual 61, 3) := by decide +kernel
theorem dX6_eject_28 : decode cX6_eject 28 = .ok (.istore 5, 2) := by decide +kernel
theorem dX6_eject_30 : decode cX6_eject 30 = .ok (.aload_n 0, 1) := by decide +kernel
theorem dX6_eject_31 : decode cX6_eject 31 = .ok (.iload_n 1, 1) := by decide +kernel
theorem dX6_eject_32 : decode cX6_eject 32 = .ok (.iload_n 2, 1) := by decide +kernel
theorem dX6_eject_33 : decode cX6_eject 33 = .ok (.aconst_null, 1) := by decide +kernel
theorem dX6_eject_34 : decode cX6_eject 34 = .ok (.invokevirtual 50, 3) := by decide +kernel
theorem dX6_eject_37 : decode cX6_eject 37 = .ok (.iload 5, 2) := by decide +kernel
theorem dX6_eject_39 : decode cX6_eject 39 = .ok (.i2l, 1) := by decide +kernel
theorem dX6_eject_40 : decode cX6_eject 40 = .ok (.lreturn, 1) := by decide +kernel
set_option maxRecDepth 20000 in
theorem ggX6_share_X6_isDeck : GoodIn wsX6_share wsX6_isDeck := goodIn_r _ [5] (by decide +kernel) (by decide +kernel)
set_option maxRecDepth 20000 in
theorem gX6_share_X6_isDeck : GoodIn wsX6_share (va_wsS RX6 29 yX6_isDeck wsX6_isDeck) := goodIn_app (goodIn_of _ (by decide +kernel)) ggX6_share_X6_isDeck
set_option maxRecDepth 20000 in
theorem ggX6_share_X6_isSort : GoodIn wsX6_share wsX6_isSort := goodIn_r _ [8] (by decide +kernel) (by decide +kernel)
set_option maxRecDepth 20000 in
theorem gX6_share_X6_isSort : GoodIn wsX6_share (va_wsS RX6 33 yX6_isSort wsX6_isSort) := goodIn_app (goodIn_of _ (by decide +kernel)) ggX6_share_X6_isSort
set_option maxRecDepth 20000 in
theorem ggX6_share_X6_refuse : GoodIn wsX6_share wsX6_refuse := goodIn_r _ [12, 13, 26, 27, 28, 29] (by decide +kernel) (by decide +kernel)
set_option maxRecDepth 20000 in
theorem gX6_share_X6_refuse : GoodIn wsX6_share (wsV RX6 38 RX6 yX6_refuse wsX6_refuse) := goodIn_app (goodIn_of _ (by decide +kernel)) ggX6_share_X6_refuse
set_option maxRecDepth 20000 in
theorem ggX6_share_X6_reelOn : GoodIn wsX6_share wsX6_reelOn := goodIn_r _ [17, 18, 26, 27, 28, 29] (by decide +kernel) (by decide +kernel)
set_option maxRecDepth 20000 in
theorem gX6_share_X6_reelOn : GoodIn wsX6_share (wsV RX6 58 RX6 yX6_reelOn wsX6_reelOn) := goodIn_app (goodIn_of _ (by decide +kernel)) ggX6_share_X6_reelOn
set_option maxRecDepth 20000 in
theorem ggX6_share_X6_carry : GoodIn wsX6_share wsX6_carry := goodIn_r _ [22, 18, 26, 27, 28, 29] (by decide +kernel) (by decide +kernel)
set_option maxRecDepth 20000 in
theorem gX6_share_X6_carry : GoodIn wsX6_share (wsV RX6 50 RX6 yX6_carry wsX6_carry) := goodIn_app (goodIn_of _ (by decide +kernel)) ggX6_share_X6_carry
set_option maxRecDepth 20000 in
theorem ggX6_share_X6_oneIfThere : GoodIn wsX6_share wsX6_oneIfThere := goodIn_r _ [25] (by decide +kernel) (by decide +kernel)
set_option maxRecDepth 20000 in
theorem gX6_share_X6_oneIfThere : GoodIn wsX6_share (va_wsS RX6 65 yX6_oneIfThere wsX6_oneIfThere) := goodIn_app (goodIn_of _ (by decide +kernel)) ggX6_share_X6_oneIfThere
theorem dX6_share_0 : decode cX6_share 0 = .ok (.iload_n 1, 1) := by decide +kernel
theorem dX6_share_1 : decode cX6_share 1 = .ok (.invokestatic 29, 3) := by decide +kernel
theorem dX6_share_4 : decode cX6_share 4 = .ok (.ifCond .eq 17, 3) := by decide +kernel
theorem dX6_share_7 : decode cX6_share 7 = .ok (.iload_n 2, 1) := by decide +kernel
theorem dX6_share_8 : decode cX6_share 8 = .ok (.invokestatic 29, 3) := by decide +kernel
theorem dX6_share_11 : decode cX6_share 11 = .ok (.ifCond .eq 10, 3) := by decide +kernel
theorem dX6_share_14 : decode cX6_share 14 = .ok (.iload_n 3, 1) := by decide +kernel
theorem dX6_share_15 : decode cX6_share 15 = .ok (.invokestatic 33, 3) := by decide +kernel
theorem dX6_share_18 : decode cX6_share 18 = .ok (.ifCond .ne 11, 3) := by decide +kernel
theorem dX6_share_21 : decode cX6_share 21 = .ok (.aload_n 0, 1) := by decide +kernel
theorem dX6_share_22 : decode cX6_share 22 = .ok (.ldc2_w 36, 3) := by decide +kernel
theorem dX6_share_25 : decode cX6_share 25 = .ok (.invokevirtual 38, 3) := by decide +kernel
theorem dX6_share_28 : decode cX6_share 28 = .ok (.lreturn, 1) := by decide +kernel
theorem dX6_share_29 : decode cX6_share 29 = .ok (.aload_n 0, 1) := by decide +kernel
theorem dX6_share_30 : decode cX6_share 30 = .ok (.iload_n 1, 1) := by decide +kernel
theorem dX6_share_31 : decode cX6_share 31 = .ok (.iload_n 3, 1) := by decide +kernel
theorem dX6_share_32 : decode cX6_share 32 = .ok (.invokevirtual 58, 3) := by decide +kernel
theorem dX6_share_35 : decode cX6_share 35 = .ok (.astore 4, 2) := by decide +kernel
theorem dX6_share_37 : decode cX6_share 37 = .ok (.aload_n 0, 1) := by decide +kernel
theorem dX6_share_38 : decode cX6_share 38 = .ok (.iload_n 2, 1) := by decide +kernel
theorem dX6_share_39 : decode cX6_share 39 = .ok (.iload_n 3, 1) := by decide +kernel
theorem dX6_share_40 : decode cX6_share 40 = .ok (.aload 4, 2) := by decide +kernel
theorem dX6_share_42 : decode cX6_share 42 = .ok (.invokevirtual 50, 3) := by decide +kernel
theorem dX6_share_45 : decode cX6_share 45 = .ok (.aload 4, 2) := by decide +kernel
theorem dX6_share_47 : decode cX6_share 47 = .ok (.invokestatic 65, 3) := by decide +kernel
theorem dX6_share_50 : decode cX6_share 50 = .ok (.lreturn, 1) := by decide +kernel
set_option maxRecDepth 20000 in
theorem ggX6_size_X6_reelFault : GoodIn wsX6_size wsX6_reelFault := goodIn_r _ [5, 6, 7, 8, 9, 4, 10, 11, 12, 13, 14, 15, 16, 17, 18, 46, 47, 48, 49] (by decide +kernel) (by decide +kernel)
set_option maxRecDepth 20000 in
theorem gX6_size_X6_reelFault : GoodIn wsX6_size (wsV RX6 54 RX6 yX6_reelFault wsX6_reelFault) := goodIn_app (goodIn_of _ (by decide +kernel)) ggX6_size_X6_reelFault
set_option maxRecDepth 20000 in
theorem ggX6_size_X6_refuse : GoodIn wsX6_size wsX6_refuse := goodIn_r _ [22, 23, 46, 47, 48, 49] (by decide +kernel) (by decide +kernel)
set_option maxRecDepth 20000 in
theorem gX6_size_X6_refuse : GoodIn wsX6_size (wsV RX6 38 RX6 yX6_refuse wsX6_refuse) := goodIn_app (goodIn_of _ (by decide +kernel)) ggX6_size_X6_refuse
set_option maxRecDepth 20000 in
theorem ggX6_size_X6_reelOn : GoodIn wsX6_size wsX6_reelOn := goodIn_r _ [17, 18, 46, 47, 48, 49] (by decide +kernel) (by decide +kernel)
set_option maxRecDepth 20000 in
theorem gX6_size_X6_reelOn : GoodIn wsX6_size (wsV RX6 58 RX6 yX6_reelOn wsX6_reelOn) := goodIn_app (goodIn_of _ (by decide +kernel)) ggX6_size_X6_reelOn
set_option maxRecDepth 20000 in
theorem ggX6_size_X0_places : GoodIn wsX6_size wsX0_places := goodIn_r _ [29, 30, 50] (by decide +kernel) (by decide +kernel)
set_option maxRecDepth 20000 in
theorem gX6_size_X0_places_u61X0 : GoodIn wsX6_size (va_wsU RX6 61 RX0 "ReelBarn$Reel" ⟨"ReelBarn$Reel", "places", "()I"⟩ yX0_places wsX0_places) := goodIn_app (goodIn_of _ (by decide +kernel)) ggX6_size_X0_places
set_option maxRecDepth 20000 in
theorem ggX6_size_X1_places : GoodIn wsX6_size wsX1_places := goodIn_r _ [34, 35, 51] (by decide +kernel) (by decide +kernel)
set_option maxRecDepth 20000 in
theorem gX6_size_X1_places_u61X1 : GoodIn wsX6_size (va_wsU RX6 61 RX1 "ReelBarn$Reel" ⟨"ReelBarn$Reel", "places", "()I"⟩ yX1_places wsX1_places) := goodIn_app (goodIn_of _ (by decide +kernel)) ggX6_size_X1_places
set_option maxRecDepth 20000 in
theorem ggX6_size_X2_places : GoodIn wsX6_size wsX2_places := goodIn_r _ [39, 40, 52] (by decide +kernel) (by decide +kernel)
set_option maxRecDepth 20000 in
theorem gX6_size_X2_places_u61X2 : GoodIn wsX6_size (va_wsU RX6 61 RX2 "ReelBarn$Reel" ⟨"ReelBarn$Reel", "places", "()I"⟩ yX2_places wsX2_places) := goodIn_app (goodIn_of _ (by decide +kernel)) ggX6_size_X2_places
set_option maxRecDepth 20000 in
theorem ggX6_size_X5_places : GoodIn wsX6_size wsX5_places := goodIn_r _ [44, 45, 53] (by decide +kernel) (by decide +kernel)
set_option maxRecDepth 20000 in
theorem gX6_size_X5_places_u61X5 : GoodIn wsX6_size (va_wsU RX6 61 RX5 "ReelBarn$Reel" ⟨"ReelBarn$Reel", "places", "()I"⟩ yX5_places wsX5_places) := goodIn_app (goodIn_of _ (by decide +kernel)) ggX6_size_X5_places
theorem dX6_size_0 : decode cX6_size 0 = .ok (.aload_n 0, 1) := by decide +kernel
theorem dX6_size_1 : decode cX6_size 1 = .ok (.iload_n 1, 1) := by decide +kernel
theorem dX6_size_2 : decode cX6_size 2 = .ok (.iload_n 2, 1) := by decide +kernel
theorem dX6_size_3 : decode cX6_size 3 = .ok (.invokevirtual 54, 3) := by decide +kernel
theorem dX6_size_6 : decode cX6_size 6 = .ok (.lstore_n 3, 1) := by decide +kernel
theorem dX6_size_7 : decode cX6_size 7 = .ok (.lload_n 3, 1) := by decide +kernel
theorem dX6_size_8 : decode cX6_size 8 = .ok (.lconst 0, 1) := by decide +kernel
theorem dX6_size_9 : decode cX6_size 9 = .ok (.lcmp, 1) := by decide +kernel
theorem dX6_size_10 : decode cX6_size 10 = .ok (.ifCond .eq 9, 3) := by decide +kernel
theorem dX6_size_13 : decode cX6_size 13 = .ok (.aload_n 0, 1) := by decide +kernel
theorem dX6_size_14 : decode cX6_size 14 = .ok (.lload_n 3, 1) := by decide +kernel
theorem dX6_size_15 : decode cX6_size 15 = .ok (.invokevirtual 38, 3) := by decide +kernel
theorem dX6_size_18 : decode cX6_size 18 = .ok (.lreturn, 1) := by decide +kernel
theorem dX6_size_19 : decode cX6_size 19 = .ok (.aload_n 0, 1) := by decide +kernel
theorem dX6_size_20 : decode cX6_size 20 = .ok (.iload_n 1, 1) := by decide +kernel
theorem dX6_size_21 : decode cX6_size 21 = .ok (.iload_n 2, 1) := by decide +kernel
theorem dX6_size_22 : decode cX6_size 22 = .ok (.invokevirtual 58, 3) := by decide +kernel
theorem dX6_size_25 : decode cX6_size 25 = .ok (.invokevirtual 61, 3) := by decide +kernel
theorem dX6_size_28 : decode cX6_size 28 = .ok (.i2l, 1) := by decide +kernel
theorem dX6_size_29 : decode cX6_size 29 = .ok (.lreturn, 1) := by decide +kernel
set_option maxRecDepth 20000 in
theorem ggX6_read_X6_placeFault : GoodIn wsX6_read wsX6_placeFault := goodIn_r _ [5, 6, 7, 8, 9, 4, 10, 11, 12, 13, 14, 15, 16, 17, 18, 19, 20, 21, 22, 23, 24, 25, 26, 27, 28, 29, 30, 31, 32, 33, 34, 35, 36, 37, 38, 39, 40, 41, 42, 43, 44, 45, 46, 47, 48, 49, 50, 51, 52, 53, 54, 75, 76, 77, 78, 79, 80, 81, 82] (by decide +kernel) (by decide +kernel)
set_option maxRecDepth 20000 in
theorem gX6_read_X6_placeFault : GoodIn wsX6_read (wsV RX6 69 RX6 yX6_placeFault wsX6_placeFault) := goodIn_app (goodIn_of _ (by decide +kernel)) ggX6_read_X6_placeFault
set_option maxRecDepth 20000 in
theorem ggX6_read_X6_refuse : GoodIn wsX6_read wsX6_refuse := goodIn_r _ [58, 59, 75, 76, 77, 78] (by decide +kernel) (by decide +kernel)
set_option maxRecDepth 20000 in
theorem gX6_read_X6_refuse : GoodIn wsX6_read (wsV RX6 38 RX6 yX6_refuse wsX6_refuse) := goodIn_app (goodIn_of _ (by decide +kernel)) ggX6_read_X6_refuse
set_option maxRecDepth 20000 in
theorem ggX6_read_X6_reelOn : GoodIn wsX6_read wsX6_reelOn := goodIn_r _ [22, 23, 75, 76, 77, 78] (by decide +kernel) (by decide +kernel)
set_option maxRecDepth 20000 in
theorem gX6_read_X6_reelOn : GoodIn wsX6_read (wsV RX6 58 RX6 yX6_reelOn wsX6_reelOn) := goodIn_app (goodIn_of _ (by decide +kernel)) ggX6_read_X6_reelOn
set_option maxRecDepth 20000 in
theorem ggX6_read_X0_told : GoodIn wsX6_read wsX0_told := goodIn_r _ [64, 36, 65, 79] (by decide +kernel) (by decide +kernel)
set_option maxRecDepth 20000 in
theorem gX6_read_X0_told_u73X0 : GoodIn wsX6_read (va_wsU RX6 73 RX0 "ReelBarn$Reel" ⟨"ReelBarn$Reel", "told", "(I)I"⟩ yX0_told wsX0_told) := goodIn_app (goodIn_of _ (by decide +kernel)) ggX6_read_X0_told
set_option maxRecDepth 20000 in
theorem ggX6_read_X1_told : GoodIn wsX6_read wsX1_told := goodIn_r _ [68, 41, 80] (by decide +kernel) (by decide +kernel)
set_option maxRecDepth 20000 in
theorem gX6_read_X1_told_u73X1 : GoodIn wsX6_read (va_wsU RX6 73 RX1 "ReelBarn$Reel" ⟨"ReelBarn$Reel", "told", "(I)I"⟩ yX1_told wsX1_told) := goodIn_app (goodIn_of _ (by decide +kernel)) ggX6_read_X1_told
set_option maxRecDepth 20000 in
theorem ggX6_read_X2_told : GoodIn wsX6_read wsX2_told := goodIn_r _ [71, 46, 81] (by decide +kernel) (by decide +kernel)
set_option maxRecDepth 20000 in
theorem gX6_read_X2_told_u73X2 : GoodIn wsX6_read (va_wsU RX6 73 RX2 "ReelBarn$Reel" ⟨"ReelBarn$Reel", "told", "(I)I"⟩ yX2_told wsX2_told) := goodIn_app (goodIn_of _ (by decide +kernel)) ggX6_read_X2_told
set_option maxRecDepth 20000 in
theorem ggX6_read_X5_told : GoodIn wsX6_read wsX5_told := goodIn_r _ [74, 51, 82] (by decide +kernel) (by decide +kernel)
set_option maxRecDepth 20000 in
theorem gX6_read_X5_told_u73X5 : GoodIn wsX6_read (va_wsU RX6 73 RX5 "ReelBarn$Reel" ⟨"ReelBarn$Reel", "told", "(I)I"⟩ yX5_told wsX5_told) := goodIn_app (goodIn_of _ (by decide +kernel)) ggX6_read_X5_told
theorem dX6_read_0 : decode cX6_read 0 = .ok (.aload_n 0, 1) := by decide +kernel
theorem dX6_read_1 : decode cX6_read 1 = .ok (.iload_n 1, 1) := by decide +kernel
theorem dX6_read_2 : decode cX6_read 2 = .ok (.iload_n 2, 1) := by decide +kernel
theorem dX6_read_3 : decode cX6_read 3 = .ok (.iload_n 3, 1) := by decide +kernel
theorem dX6_read_4 : decode cX6_read 4 = .ok (.invokevirtual 69, 3) := by decide +kernel
theorem dX6_read_7 : decode cX6_read 7 = .ok (.lstore 4, 2) := by decide +kernel
theorem dX6_read_9 : decode cX6_read 9 = .ok (.lload 4, 2) := by decide +kernel
theorem dX6_read_11 : decode cX6_read 11 = .ok (.lconst 0, 1) := by decide +kernel
theorem dX6_read_12 : decode cX6_read 12 = .ok (.lcmp, 1) := by decide +kernel
theorem dX6_read_13 : decode cX6_read 13 = .ok (.ifCond .eq 10, 3) := by decide +kernel
theorem dX6_read_16 : decode cX6_read 16 = .ok (.aload_n 0, 1) := by decide +kernel
theorem dX6_read_17 : decode cX6_read 17 = .ok (.lload 4, 2) := by decide +kernel
theorem dX6_read_19 : decode cX6_read 19 = .ok (.invokevirtual 38, 3) := by decide +kernel
theorem dX6_read_22 : decode cX6_read 22 = .ok (.lreturn, 1) := by decide +kernel
theorem dX6_read_23 : decode cX6_read 23 = .ok (.aload_n 0, 1) := by decide +kernel
theorem dX6_read_24 : decode cX6_read 24 = .ok (.iload_n 1, 1) := by decide +kernel
theorem dX6_read_25 : decode cX6_read 25 = .ok (.iload_n 2, 1) := by decide +kernel
theorem dX6_read_26 : decode cX6_read 26 = .ok (.invokevirtual 58, 3) := by decide +kernel
theorem dX6_read_29 : decode cX6_read 29 = .ok (.iload_n 3, 1) := by decide +kernel
theorem dX6_read_30 : decode cX6_read 30 = .ok (.invokevirtual 73, 3) := by decide +kernel
theorem dX6_read_33 : decode cX6_read 33 = .ok (.i2l, 1) := by decide +kernel
theorem dX6_read_34 : decode cX6_read 34 = .ok (.lreturn, 1) := by decide +kernel
set_option maxRecDepth 20000 in
theorem ggX6_write_X6_placeFault : GoodIn wsX6_write wsX6_placeFault := goodIn_r _ [5, 6, 7, 8, 9, 4, 10, 11, 12, 13, 14, 15, 16, 17, 18, 19, 20, 21, 22, 23, 24, 25, 26, 27, 28, 29, 30, 31, 32, 33, 34, 35, 36, 37, 38, 39, 40, 41, 42, 43, 44, 45, 46, 47, 48, 49, 50, 51, 52, 53, 54, 101, 102, 103, 104, 105, 106, 107, 108] (by decide +kernel) (by decide +kernel)
set_option maxRecDepth 20000 in
theorem gX6_write_X6_placeFault : GoodIn wsX6_write (wsV RX6 69 RX6 yX6_placeFault wsX6_placeFault) := goodIn_app (goodIn_of _ (by decide +kernel)) ggX6_write_X6_placeFault
set_option maxRecDepth 20000 in
theorem ggX6_write_X6_refuse : GoodIn wsX6_write wsX6_refuse := goodIn_r _ [58, 59, 101, 102, 103, 104] (by decide +kernel) (by decide +kernel)
set_option maxRecDepth 20000 in
theorem gX6_write_X6_refuse : GoodIn wsX6_write (wsV RX6 38 RX6 yX6_refuse wsX6_refuse) := goodIn_app (goodIn_of _ (by decide +kernel)) ggX6_write_X6_refuse
set_option maxRecDepth 20000 in
theorem ggX6_write_X6_reelOn : GoodIn wsX6_write wsX6_reelOn := goodIn_r _ [22, 23, 101, 102, 103, 104] (by decide +kernel) (by decide +kernel)
set_option maxRecDepth 20000 in
theorem gX6_write_X6_reelOn : GoodIn wsX6_write (wsV RX6 58 RX6 yX6_reelOn wsX6_reelOn) := goodIn_app (goodIn_of _ (by decide +kernel)) ggX6_write_X6_reelOn
set_option maxRecDepth 20000 in
theorem ggX6_write_X0_put : GoodIn wsX6_write wsX0_put := goodIn_r _ [64, 65, 66, 34, 67, 68, 69, 70, 71, 72, 36, 73, 74, 75, 76, 77, 105] (by decide +kernel) (by decide +kernel)
set_option maxRecDepth 20000 in
theorem gX6_write_X0_put_u77X0 : GoodIn wsX6_write (va_wsU RX6 77 RX0 "ReelBarn$Reel" ⟨"ReelBarn$Reel", "put", "(II)V"⟩ yX0_put wsX0_put) := goodIn_app (goodIn_of _ (by decide +kernel)) ggX6_write_X0_put
set_option maxRecDepth 20000 in
theorem ggX6_write_X1_put : GoodIn wsX6_write wsX1_put := goodIn_r _ [80, 41, 106] (by decide +kernel) (by decide +kernel)
set_option maxRecDepth 20000 in
theorem gX6_write_X1_put_u77X1 : GoodIn wsX6_write (va_wsU RX6 77 RX1 "ReelBarn$Reel" ⟨"ReelBarn$Reel", "put", "(II)V"⟩ yX1_put wsX1_put) := goodIn_app (goodIn_of _ (by decide +kernel)) ggX6_write_X1_put
set_option maxRecDepth 20000 in
theorem ggX6_write_X2_put : GoodIn wsX6_write wsX2_put := goodIn_r _ [83, 46, 107] (by decide +kernel) (by decide +kernel)
set_option maxRecDepth 20000 in
theorem gX6_write_X2_put_u77X2 : GoodIn wsX6_write (va_wsU RX6 77 RX2 "ReelBarn$Reel" ⟨"ReelBarn$Reel", "put", "(II)V"⟩ yX2_put wsX2_put) := goodIn_app (goodIn_of _ (by decide +kernel)) ggX6_write_X2_put
set_option maxRecDepth 20000 in
theorem ggX6_write_X5_put : GoodIn wsX6_write wsX5_put := goodIn_r _ [86, 51, 108] (by decide +kernel) (by decide +kernel)
set_option maxRecDepth 20000 in
theorem gX6_write_X5_put_u77X5 : GoodIn wsX6_write (va_wsU RX6 77 RX5 "ReelBarn$Reel" ⟨"ReelBarn$Reel", "put", "(II)V"⟩ yX5_put wsX5_put) := goodIn_app (goodIn_of _ (by decide +kernel)) ggX6_write_X5_put
set_option maxRecDepth 20000 in
theorem ggX6_write_X0_told : GoodIn wsX6_write wsX0_told := goodIn_r _ [91, 36, 68, 105] (by decide +kernel) (by decide +kernel)
set_option maxRecDepth 20000 in
theorem gX6_write_X0_told_u73X0 : GoodIn wsX6_write (va_wsU RX6 73 RX0 "ReelBarn$Reel" ⟨"ReelBarn$Reel", "told", "(I)I"⟩ yX0_told wsX0_told) := goodIn_app (goodIn_of _ (by decide +kernel)) ggX6_write_X0_told
set_option maxRecDepth 20000 in
theorem ggX6_write_X1_told : GoodIn wsX6_write wsX1_told := goodIn_r _ [94, 41, 106] (by decide +kernel) (by decide +kernel)
set_option maxRecDepth 20000 in
theorem gX6_write_X1_told_u73X1 : GoodIn wsX6_write (va_wsU RX6 73 RX1 "ReelBarn$Reel" ⟨"ReelBarn$Reel", "told", "(I)I"⟩ yX1_told wsX1_told) := goodIn_app (goodIn_of _ (by decide +kernel)) ggX6_write_X1_told
set_option maxRecDepth 20000 in
theorem ggX6_write_X2_told : GoodIn wsX6_write wsX2_told := goodIn_r _ [97, 46, 107] (by decide +kernel) (by decide +kernel)
set_option maxRecDepth 20000 in
theorem gX6_write_X2_told_u73X2 : GoodIn wsX6_write (va_wsU RX6 73 RX2 "ReelBarn$Reel" ⟨"ReelBarn$Reel", "told", "(I)I"⟩ yX2_told wsX2_told) := goodIn_app (goodIn_of _ (by decide +kernel)) ggX6_write_X2_told
set_option maxRecDepth 20000 in
theorem ggX6_write_X5_told : GoodIn wsX6_write wsX5_told := goodIn_r _ [100, 51, 108] (by decide +kernel) (by decide +kernel)
set_option maxRecDepth 20000 in
theorem gX6_write_X5_told_u73X5 : GoodIn wsX6_write (va_wsU RX6 73 RX5 "ReelBarn$Reel" ⟨"ReelBarn$Reel", "told", "(I)I"⟩ yX5_told wsX5_told) := goodIn_app (goodIn_of _ (by decide +kernel)) ggX6_write_X5_told
theorem dX6_write_0 : decode cX6_write 0 = .ok (.aload_n 0, 1) := by decide +kernel
theorem dX6_write_1 : decode cX6_write 1 = .ok (.iload_n 1, 1) := by decide +kernel
theorem dX6_write_2 : decode cX6_write 2 = .ok (.iload_n 2, 1) := by decide +kernel
theorem dX6_write_3 : decode cX6_write 3 = .ok (.iload_n 3, 1) := by decide +kernel
theorem dX6_write_4 : decode cX6_write 4 = .ok (.invokevirtual 69, 3) := by decide +kernel
theorem dX6_write_7 : decode cX6_write 7 = .ok (.lstore 5, 2) := by decide +kernel
theorem dX6_write_9 : decode cX6_write 9 = .ok (.lload 5, 2) := by decide +kernel
theorem dX6_write_11 : decode cX6_write 11 = .ok (.lconst 0, 1) := by decide +kernel
theorem dX6_write_12 : decode cX6_write 12 = .ok (.lcmp, 1) := by decide +kernel
theorem dX6_write_13 : decode cX6_write 13 = .ok (.ifCond .eq 10, 3) := by decide +kernel
theorem dX6_write_16 : decode cX6_write 16 = .ok (.aload_n 0, 1) := by decide +kernel
theorem dX6_write_17 : decode cX6_write 17 = .ok (.lload 5, 2) := by decide +kernel
theorem dX6_write_19 : decode cX6_write 19 = .ok (.invokevirtual 38, 3) := by decide +kernel
theorem dX6_write_22 : decode cX6_write 22 = .ok (.lreturn, 1) := by decide +kernel
theorem dX6_write_23 : decode cX6_write 23 = .ok (.aload_n 0, 1) := by decide +kernel
theorem dX6_write_24 : decode cX6_write 24 = .ok (.iload_n 1, 1) := by decide +kernel
theorem dX6_write_25 : decode cX6_write 25 = .ok (.iload_n 2, 1) := by decide +kernel
theorem dX6_write_26 : decode cX6_write 26 = .ok (.invokevirtual 58, 3) := by decide +kernel
theorem dX6_write_29 : decode cX6_write 29 = .ok (.astore 7, 2) := by decide +kernel
theorem dX6_write_31 : decode cX6_write 31 = .ok (.aload 7, 2) := by decide +kernel
theorem dX6_write_33 : decode cX6_write 33 = .ok (.iload_n 3, 1) := by decide +kernel
theorem dX6_write_34 : decode cX6_write 34 = .ok (.iload 4, 2) := by decide +kernel
theorem dX6_write_36 : decode cX6_write 36 = .ok (.invokevirtual 77, 3) := by decide +kernel
theorem dX6_write_39 : decode cX6_write 39 = .ok (.aload 7, 2) := by decide +kernel
theorem dX6_write_41 : decode cX6_write 41 = .ok (.iload_n 3, 1) := by decide +kernel
theorem dX6_write_42 : decode cX6_write 42 = .ok (.invokevirtual 73, 3) := by decide +kernel
theorem dX6_write_45 : decode cX6_write 45 = .ok (.i2l, 1) := by decide +kernel
theorem dX6_write_46 : decode cX6_write 46 = .ok (.lreturn, 1) := by decide +kernel
set_option maxRecDepth 20000 in
theorem ggX6_nudge_X6_knowsHow : GoodIn wsX6_nudge wsX6_knowsHow := goodIn_r _ [6] (by decide +kernel) (by decide +kernel)
set_option maxRecDepth 20000 in
theorem gX6_nudge_X6_knowsHow : GoodIn wsX6_nudge (va_wsS RX6 81 yX6_knowsHow wsX6_knowsHow) := goodIn_app (goodIn_of _ (by decide +kernel)) ggX6_nudge_X6_knowsHow
set_option maxRecDepth 20000 in
theorem ggX6_nudge_X6_refuse : GoodIn wsX6_nudge wsX6_refuse := goodIn_r _ [10, 11, 120, 121, 122, 123] (by decide +kernel) (by decide +kernel)
set_option maxRecDepth 20000 in
theorem gX6_nudge_X6_refuse : GoodIn wsX6_nudge (wsV RX6 38 RX6 yX6_refuse wsX6_refuse) := goodIn_app (goodIn_of _ (by decide +kernel)) ggX6_nudge_X6_refuse
set_option maxRecDepth 20000 in
theorem ggX6_nudge_X6_placeFault : GoodIn wsX6_nudge wsX6_placeFault := goodIn_r _ [15, 16, 17, 18, 19, 5, 20, 1, 21, 22, 23, 24, 25, 26, 27, 28, 29, 30, 31, 32, 33, 34, 35, 36, 37, 38, 39, 40, 41, 42, 43, 44, 45, 46, 47, 48, 49, 50, 51, 52, 53, 54, 55, 56, 57, 58, 59, 60, 61, 62, 63, 120, 121, 122, 123, 124, 125, 126, 127] (by decide +kernel) (by decide +kernel)
set_option maxRecDepth 20000 in
theorem gX6_nudge_X6_placeFault : GoodIn wsX6_nudge (wsV RX6 69 RX6 yX6_placeFault wsX6_placeFault) := goodIn_app (goodIn_of _ (by decide +kernel)) ggX6_nudge_X6_placeFault
set_option maxRecDepth 20000 in
theorem ggX6_nudge_X6_reelOn : GoodIn wsX6_nudge wsX6_reelOn := goodIn_r _ [31, 32, 120, 121, 122, 123] (by decide +kernel) (by decide +kernel)
set_option maxRecDepth 20000 in
theorem gX6_nudge_X6_reelOn : GoodIn wsX6_nudge (wsV RX6 58 RX6 yX6_reelOn wsX6_reelOn) := goodIn_app (goodIn_of _ (by decide +kernel)) ggX6_nudge_X6_reelOn
set_option maxRecDepth 20000 in
theorem ggX6_nudge_X0_change : GoodIn wsX6_nudge wsX0_change := goodIn_r _ [69, 45, 70, 71, 43, 72, 73, 74, 75, 76, 77, 78, 79, 80, 81, 82, 124] (by decide +kernel) (by decide +kernel)
set_option maxRecDepth 20000 in
theorem gX6_nudge_X0_change_u87X0 : GoodIn wsX6_nudge (va_wsO RX6 87 RX0 "ReelBarn$Reel" ⟨"ReelBarn$Reel", "change", "(III)V"⟩ yX0_change wsX0_change) := goodIn_app (goodIn_of _ (by decide +kernel)) ggX6_nudge_X0_change
set_option maxRecDepth 20000 in
theorem ggX6_nudge_X3_change : GoodIn wsX6_nudge wsX3_change := goodIn_r _ [83, 86, 87, 88, 89, 43, 90, 45, 73, 91, 92, 48, 93, 50, 94, 95, 53, 96, 55, 97, 98, 58, 99, 60, 100, 101, 37, 102, 103, 104, 105, 106, 107, 70, 71, 72, 74, 75, 76, 77, 78, 79, 80, 81, 82, 108, 109, 110, 111, 112, 113, 114, 115, 116, 124, 125, 126, 127] (by decide +kernel) (by decide +kernel)
set_option maxRecDepth 20000 in
theorem gX6_nudge_X3_change_u87X1 : GoodIn wsX6_nudge (va_wsU RX6 87 RX1 "ReelBarn$Reel" ⟨"ReelBarn$Reel", "change", "(III)V"⟩ yX3_change wsX3_change) := goodIn_app (goodIn_of _ (by decide +kernel)) ggX6_nudge_X3_change
set_option maxRecDepth 20000 in
theorem gX6_nudge_X3_change_u87X2 : GoodIn wsX6_nudge (va_wsU RX6 87 RX2 "ReelBarn$Reel" ⟨"ReelBarn$Reel", "change", "(III)V"⟩ yX3_change wsX3_change) := goodIn_app (goodIn_of _ (by decide +kernel)) ggX6_nudge_X3_change
set_option maxRecDepth 20000 in
theorem gX6_nudge_X3_change_u87X5 : GoodIn wsX6_nudge (va_wsU RX6 87 RX5 "ReelBarn$Reel" ⟨"ReelBarn$Reel", "change", "(III)V"⟩ yX3_change wsX3_change) := goodIn_app (goodIn_of _ (by decide +kernel)) ggX6_nudge_X3_change
set_option maxRecDepth 20000 in
theorem ggX6_nudge_X0_told : GoodIn wsX6_nudge wsX0_told := goodIn_r _ [90, 45, 73, 124] (by decide +kernel) (by decide +kernel)
set_option maxRecDepth 20000 in
theorem gX6_nudge_X0_told_u73X0 : GoodIn wsX6_nudge (va_wsU RX6 73 RX0 "ReelBarn$Reel" ⟨"ReelBarn$Reel", "told", "(I)I"⟩ yX0_told wsX0_told) := goodIn_app (goodIn_of _ (by decide +kernel)) ggX6_nudge_X0_told
set_option maxRecDepth 20000 in
theorem ggX6_nudge_X1_told : GoodIn wsX6_nudge wsX1_told := goodIn_r _ [93, 50, 125] (by decide +kernel) (by decide +kernel)
set_option maxRecDepth 20000 in
theorem gX6_nudge_X1_told_u73X1 : GoodIn wsX6_nudge (va_wsU RX6 73 RX1 "ReelBarn$Reel" ⟨"ReelBarn$Reel", "told", "(I)I"⟩ yX1_told wsX1_told) := goodIn_app (goodIn_of _ (by decide +kernel)) ggX6_nudge_X1_told
set_option maxRecDepth 20000 in
theorem ggX6_nudge_X2_told : GoodIn wsX6_nudge wsX2_told := goodIn_r _ [96, 55, 126] (by decide +kernel) (by decide +kernel)
set_option maxRecDepth 20000 in
theorem gX6_nudge_X2_told_u73X2 : GoodIn wsX6_nudge (va_wsU RX6 73 RX2 "ReelBarn$Reel" ⟨"ReelBarn$Reel", "told", "(I)I"⟩ yX2_told wsX2_told) := goodIn_app (goodIn_of _ (by decide +kernel)) ggX6_nudge_X2_told
set_option maxRecDepth 20000 in
theorem ggX6_nudge_X5_told : GoodIn wsX6_nudge wsX5_told := goodIn_r _ [99, 60, 127] (by decide +kernel) (by decide +kernel)
set_option maxRecDepth 20000 in
theorem gX6_nudge_X5_told_u73X5 : GoodIn wsX6_nudge (va_wsU RX6 73 RX5 "ReelBarn$Reel" ⟨"ReelBarn$Reel", "told", "(I)I"⟩ yX5_told wsX5_told) := goodIn_app (goodIn_of _ (by decide +kernel)) ggX6_nudge_X5_told
theorem dX6_nudge_0 : decode cX6_nudge 0 = .ok (.iload_n 2, 1) := by decide +kernel
theorem dX6_nudge_1 : decode cX6_nudge 1 = .ok (.iload 4, 2) := by decide +kernel
theorem dX6_nudge_3 : decode cX6_nudge 3 = .ok (.invokestatic 81, 3) := by decide +kernel
theorem dX6_nudge_6 : decode cX6_nudge 6 = .ok (.ifCond .ne 11, 3) := by decide +kernel
theorem dX6_nudge_9 : decode cX6_nudge 9 = .ok (.aload_n 0, 1) := by decide +kernel
theorem dX6_nudge_10 : decode cX6_nudge 10 = .ok (.ldc2_w 36, 3) := by decide +kernel
theorem dX6_nudge_13 : decode cX6_nudge 13 = .ok (.invokevirtual 38, 3) := by decide +kernel
theorem dX6_nudge_16 : decode cX6_nudge 16 = .ok (.lreturn, 1) := by decide +kernel
theorem dX6_nudge_17 : decode cX6_nudge 17 = .ok (.aload_n 0, 1) := by decide +kernel
theorem dX6_nudge_18 : decode cX6_nudge 18 = .ok (.iload_n 1, 1) := by decide +kernel
theorem dX6_nudge_19 : decode cX6_nudge 19 = .ok (.iload_n 2, 1) := by decide +kernel
theorem dX6_nudge_20 : decode cX6_nudge 20 = .ok (.iload_n 3, 1) := by decide +kernel
theorem dX6_nudge_21 : decode cX6_nudge 21 = .ok (.invokevirtual 69, 3) := by decide +kernel
theorem dX6_nudge_24 : decode cX6_nudge 24 = .ok (.lstore 6, 2) := by decide +kernel
theorem dX6_nudge_26 : decode cX6_nudge 26 = .ok (.lload 6, 2) := by decide +kernel
theorem dX6_nudge_28 : decode cX6_nudge 28 = .ok (.lconst 0, 1) := by decide +kernel
theorem dX6_nudge_29 : decode cX6_nudge 29 = .ok (.lcmp, 1) := by decide +kernel
theorem dX6_nudge_30 : decode cX6_nudge 30 = .ok (.ifCond .eq 10, 3) := by decide +kernel
theorem dX6_nudge_33 : decode cX6_nudge 33 = .ok (.aload_n 0, 1) := by decide +kernel
theorem dX6_nudge_34 : decode cX6_nudge 34 = .ok (.lload 6, 2) := by decide +kernel
theorem dX6_nudge_36 : decode cX6_nudge 36 = .ok (.invokevirtual 38, 3) := by decide +kernel
theorem dX6_nudge_39 : decode cX6_nudge 39 = .ok (.lreturn, 1) := by decide +kernel
theorem dX6_nudge_40 : decode cX6_nudge 40 = .ok (.iload 4, 2) := by decide +kernel
theorem dX6_nudge_42 : decode cX6_nudge 42 = .ok (.iconst 3, 1) := by decide +kernel
theorem dX6_nudge_43 : decode cX6_nudge 43 = .ok (.if_icmp .ne 16, 3) := by decide +kernel
theorem dX6_nudge_46 : decode cX6_nudge 46 = .ok (.iload 5, 2) := by decide +kernel
theorem dX6_nudge_48 : decode cX6_nudge 48 = .ok (.ifCond .ne 11, 3) := by decide +kernel
theorem dX6_nudge_51 : decode cX6_nudge 51 = .ok (.aload_n 0, 1) := by decide +kernel
theorem dX6_nudge_52 : decode cX6_nudge 52 = .ok (.ldc2_w 85, 3) := by decide +kernel
theorem dX6_nudge_55 : decode cX6_nudge 55 = .ok (.invokevirtual 38, 3) := by decide +kernel
theorem dX6_nudge_58 : decode cX6_nudge 58 = .ok (.lreturn, 1) := by decide +kernel
theorem dX6_nudge_59 : decode cX6_nudge 59 = .ok (.aload_n 0, 1) := by decide +kernel
theorem dX6_nudge_60 : decode cX6_nudge 60 = .ok (.iload_n 1, 1) := by decide +kernel
theorem dX6_nudge_61 : decode cX6_nudge 61 = .ok (.iload_n 2, 1) := by decide +kernel
theorem dX6_nudge_62 : decode cX6_nudge 62 = .ok (.invokevirtual 58, 3) := by decide +kernel
theorem dX6_nudge_65 : decode cX6_nudge 65 = .ok (.astore 8, 2) := by decide +kernel
theorem dX6_nudge_67 : decode cX6_nudge 67 = .ok (.aload 8, 2) := by decide +kernel
theorem dX6_nudge_69 : decode cX6_nudge 69 = .ok (.iload_n 3, 1) := by decide +kernel
theorem dX6_nudge_70 : decode cX6_nudge 70 = .ok (.iload 4, 2) := by decide +kernel
theorem dX6_nudge_72 : decode cX6_nudge 72 = .ok (.iload 5, 2) := by decide +kernel
theorem dX6_nudge_74 : decode cX6_nudge 74 = .ok (.invokevirtual 87, 3) := by decide +kernel
theorem dX6_nudge_77 : decode cX6_nudge 77 = .ok (.aload 8, 2) := by decide +kernel
theorem dX6_nudge_79 : decode cX6_nudge 79 = .ok (.iload_n 3, 1) := by decide +kernel
theorem dX6_nudge_80 : decode cX6_nudge 80 = .ok (.invokevirtual 73, 3) := by decide +kernel
theorem dX6_nudge_83 : decode cX6_nudge 83 = .ok (.i2l, 1) := by decide +kernel
theorem dX6_nudge_84 : decode cX6_nudge 84 = .ok (.lreturn, 1) := by decide +kernel
set_option maxRecDepth 20000 in
theorem ggX6_tick_X6_refuse : GoodIn wsX6_tick wsX6_refuse := goodIn_r _ [6, 7, 113, 114, 115, 116] (by decide +kernel) (by decide +kernel)
set_option maxRecDepth 20000 in
theorem gX6_tick_X6_refuse : GoodIn wsX6_tick (wsV RX6 38 RX6 yX6_refuse wsX6_refuse) := goodIn_app (goodIn_of _ (by decide +kernel)) ggX6_tick_X6_refuse
set_option maxRecDepth 20000 in
theorem ggX6_tick_X6_placeFault : GoodIn wsX6_tick wsX6_placeFault := goodIn_r _ [11, 12, 13, 14, 15, 5, 16, 1, 17, 18, 19, 20, 21, 22, 23, 24, 25, 26, 27, 28, 29, 30, 31, 32, 33, 34, 35, 36, 37, 38, 39, 40, 41, 42, 43, 44, 45, 46, 47, 48, 49, 50, 51, 52, 53, 54, 55, 56, 57, 58, 59, 113, 114, 115, 116, 117, 118, 119, 120] (by decide +kernel) (by decide +kernel)
set_option maxRecDepth 20000 in
theorem gX6_tick_X6_placeFault : GoodIn wsX6_tick (wsV RX6 69 RX6 yX6_placeFault wsX6_placeFault) := goodIn_app (goodIn_of _ (by decide +kernel)) ggX6_tick_X6_placeFault
set_option maxRecDepth 20000 in
theorem ggX6_tick_X6_reelOn : GoodIn wsX6_tick wsX6_reelOn := goodIn_r _ [27, 28, 113, 114, 115, 116] (by decide +kernel) (by decide +kernel)
set_option maxRecDepth 20000 in
theorem gX6_tick_X6_reelOn : GoodIn wsX6_tick (wsV RX6 58 RX6 yX6_reelOn wsX6_reelOn) := goodIn_app (goodIn_of _ (by decide +kernel)) ggX6_tick_X6_reelOn
set_option maxRecDepth 20000 in
theorem ggX6_tick_X0_told : GoodIn wsX6_tick wsX0_told := goodIn_r _ [64, 41, 65, 117] (by decide +kernel) (by decide +kernel)
set_option maxRecDepth 20000 in
theorem gX6_tick_X0_told_u73X0 : GoodIn wsX6_tick (va_wsU RX6 73 RX0 "ReelBarn$Reel" ⟨"ReelBarn$Reel", "told", "(I)I"⟩ yX0_told wsX0_told) := goodIn_app (goodIn_of _ (by decide +kernel)) ggX6_tick_X0_told
set_option maxRecDepth 20000 in
theorem ggX6_tick_X1_told : GoodIn wsX6_tick wsX1_told := goodIn_r _ [68, 46, 118] (by decide +kernel) (by decide +kernel)
set_option maxRecDepth 20000 in
theorem gX6_tick_X1_told_u73X1 : GoodIn wsX6_tick (va_wsU RX6 73 RX1 "ReelBarn$Reel" ⟨"ReelBarn$Reel", "told", "(I)I"⟩ yX1_told wsX1_told) := goodIn_app (goodIn_of _ (by decide +kernel)) ggX6_tick_X1_told
set_option maxRecDepth 20000 in
theorem ggX6_tick_X2_told : GoodIn wsX6_tick wsX2_told := goodIn_r _ [71, 51, 119] (by decide +kernel) (by decide +kernel)
set_option maxRecDepth 20000 in
theorem gX6_tick_X2_told_u73X2 : GoodIn wsX6_tick (va_wsU RX6 73 RX2 "ReelBarn$Reel" ⟨"ReelBarn$Reel", "told", "(I)I"⟩ yX2_told wsX2_told) := goodIn_app (goodIn_of _ (by decide +kernel)) ggX6_tick_X2_told
set_option maxRecDepth 20000 in
theorem ggX6_tick_X5_told : GoodIn wsX6_tick wsX5_told := goodIn_r _ [74, 56, 120] (by decide +kernel) (by decide +kernel)
set_option maxRecDepth 20000 in
theorem gX6_tick_X5_told_u73X5 : GoodIn wsX6_tick (va_wsU RX6 73 RX5 "ReelBarn$Reel" ⟨"ReelBarn$Reel", "told", "(I)I"⟩ yX5_told wsX5_told) := goodIn_app (goodIn_of _ (by decide +kernel)) ggX6_tick_X5_told
set_option maxRecDepth 20000 in
theorem ggX6_tick_X0_stepUp : GoodIn wsX6_tick wsX0_stepUp := goodIn_r _ [80, 41, 81, 82, 83, 39, 84, 85, 86, 87, 88, 89, 117] (by decide +kernel) (by decide +kernel)
set_option maxRecDepth 20000 in
theorem gX6_tick_X0_stepUp_u91X0 : GoodIn wsX6_tick (va_wsO RX6 91 RX0 "ReelBarn$Reel" ⟨"ReelBarn$Reel", "stepUp", "(I)V"⟩ yX0_stepUp wsX0_stepUp) := goodIn_app (goodIn_of _ (by decide +kernel)) ggX6_tick_X0_stepUp
set_option maxRecDepth 20000 in
theorem ggX6_tick_X3_stepUp : GoodIn wsX6_tick wsX3_stepUp := goodIn_r _ [90, 93, 61, 62, 63, 39, 64, 41, 65, 66, 67, 44, 68, 46, 69, 70, 49, 71, 51, 72, 73, 54, 74, 56, 94, 95, 96, 97, 98, 99, 100, 101, 81, 82, 83, 84, 85, 86, 87, 88, 89, 102, 103, 104, 105, 106, 107, 108, 109, 110, 117, 118, 119, 120] (by decide +kernel) (by decide +kernel)
set_option maxRecDepth 20000 in
theorem gX6_tick_X3_stepUp_u91X1 : GoodIn wsX6_tick (va_wsU RX6 91 RX1 "ReelBarn$Reel" ⟨"ReelBarn$Reel", "stepUp", "(I)V"⟩ yX3_stepUp wsX3_stepUp) := goodIn_app (goodIn_of _ (by decide +kernel)) ggX6_tick_X3_stepUp
set_option maxRecDepth 20000 in
theorem gX6_tick_X3_stepUp_u91X2 : GoodIn wsX6_tick (va_wsU RX6 91 RX2 "ReelBarn$Reel" ⟨"ReelBarn$Reel", "stepUp", "(I)V"⟩ yX3_stepUp wsX3_stepUp) := goodIn_app (goodIn_of _ (by decide +kernel)) ggX6_tick_X3_stepUp
set_option maxRecDepth 20000 in
theorem gX6_tick_X3_stepUp_u91X5 : GoodIn wsX6_tick (va_wsU RX6 91 RX5 "ReelBarn$Reel" ⟨"ReelBarn$Reel", "stepUp", "(I)V"⟩ yX3_stepUp wsX3_stepUp) := goodIn_app (goodIn_of _ (by decide +kernel)) ggX6_tick_X3_stepUp
theorem dX6_tick_0 : decode cX6_tick 0 = .ok (.iload_n 2, 1) := by decide +kernel
theorem dX6_tick_1 : decode cX6_tick 1 = .ok (.iconst 3, 1) := by decide +kernel
theorem dX6_tick_2 : decode cX6_tick 2 = .ok (.if_icmp .ne 11, 3) := by decide +kernel
theorem dX6_tick_5 : decode cX6_tick 5 = .ok (.aload_n 0, 1) := by decide +kernel
theorem dX6_tick_6 : decode cX6_tick 6 = .ok (.ldc2_w 36, 3) := by decide +kernel
theorem dX6_tick_9 : decode cX6_tick 9 = .ok (.invokevirtual 38, 3) := by decide +kernel
theorem dX6_tick_12 : decode cX6_tick 12 = .ok (.lreturn, 1) := by decide +kernel
theorem dX6_tick_13 : decode cX6_tick 13 = .ok (.aload_n 0, 1) := by decide +kernel
theorem dX6_tick_14 : decode cX6_tick 14 = .ok (.iload_n 1, 1) := by decide +kernel
theorem dX6_tick_15 : decode cX6_tick 15 = .ok (.iload_n 2, 1) := by decide +kernel
theorem dX6_tick_16 : decode cX6_tick 16 = .ok (.iload_n 3, 1) := by decide +kernel
theorem dX6_tick_17 : decode cX6_tick 17 = .ok (.invokevirtual 69, 3) := by decide +kernel
theorem dX6_tick_20 : decode cX6_tick 20 = .ok (.lstore 5, 2) := by decide +kernel
theorem dX6_tick_22 : decode cX6_tick 22 = .ok (.lload 5, 2) := by decide +kernel
theorem dX6_tick_24 : decode cX6_tick 24 = .ok (.lconst 0, 1) := by decide +kernel
theorem dX6_tick_25 : decode cX6_tick 25 = .ok (.lcmp, 1) := by decide +kernel
theorem dX6_tick_26 : decode cX6_tick 26 = .ok (.ifCond .eq 10, 3) := by decide +kernel
theorem dX6_tick_29 : decode cX6_tick 29 = .ok (.aload_n 0, 1) := by decide +kernel
theorem dX6_tick_30 : decode cX6_tick 30 = .ok (.lload 5, 2) := by decide +kernel
theorem dX6_tick_32 : decode cX6_tick 32 = .ok (.invokevirtual 38, 3) := by decide +kernel
theorem dX6_tick_35 : decode cX6_tick 35 = .ok (.lreturn, 1) := by decide +kernel
theorem dX6_tick_36 : decode cX6_tick 36 = .ok (.aload_n 0, 1) := by decide +kernel
theorem dX6_tick_37 : decode cX6_tick 37 = .ok (.iload_n 1, 1) := by decide +kernel
theorem dX6_tick_38 : decode cX6_tick 38 = .ok (.iload_n 2, 1) := by decide +kernel
theorem dX6_tick_39 : decode cX6_tick 39 = .ok (.invokevirtual 58, 3) := by decide +kernel
theorem dX6_tick_42 : decode cX6_tick 42 = .ok (.astore 7, 2) := by decide +kernel
theorem dX6_tick_44 : decode cX6_tick 44 = .ok (.aload 7, 2) := by decide +kernel
theorem dX6_tick_46 : decode cX6_tick 46 = .ok (.iload_n 3, 1) := by decide +kernel
theorem dX6_tick_47 : decode cX6_tick 47 = .ok (.invokevirtual 73, 3) := by decide +kernel
theorem dX6_tick_50 : decode cX6_tick 50 = .ok (.istore 8, 2) := by decide +kernel
theorem dX6_tick_52 : decode cX6_tick 52 = .ok (.aload 7, 2) := by decide +kernel
theorem dX6_tick_54 : decode cX6_tick 54 = .ok (.iload_n 3, 1) := by decide +kernel
theorem dX6_tick_55 : decode cX6_tick 55 = .ok (.invokevirtual 91, 3) := by decide +kernel
theorem dX6_tick_58 : decode cX6_tick 58 = .ok (.iload 4, 2) := by decide +kernel
theorem dX6_tick_60 : decode cX6_tick 60 = .ok (.ifCond .eq 13, 3) := by decide +kernel
theorem dX6_tick_63 : decode cX6_tick 63 = .ok (.aload 7, 2) := by decide +kernel
theorem dX6_tick_65 : decode cX6_tick 65 = .ok (.iload_n 3, 1) := by decide +kernel
theorem dX6_tick_66 : decode cX6_tick 66 = .ok (.invokevirtual 73, 3) := by decide +kernel
theorem dX6_tick_69 : decode cX6_tick 69 = .ok (.i2l, 1) := by decide +kernel
theorem dX6_tick_70 : decode cX6_tick 70 = .ok (.goto 6, 3) := by decide +kernel
theorem dX6_tick_73 : decode cX6_tick 73 = .ok (.iload 8, 2) := by decide +kernel
theorem dX6_tick_75 : decode cX6_tick 75 = .ok (.i2l, 1) := by decide +kernel
theorem dX6_tick_76 : decode cX6_tick 76 = .ok (.lreturn, 1) := by decide +kernel
set_option maxRecDepth 20000 in
theorem ggX6_blend_X6_isDeck : GoodIn wsX6_blend wsX6_isDeck := goodIn_r _ [5] (by decide +kernel) (by decide +kernel)
set_option maxRecDepth 20000 in
theorem gX6_blend_X6_isDeck : GoodIn wsX6_blend (va_wsS RX6 29 yX6_isDeck wsX6_isDeck) := goodIn_app (goodIn_of _ (by decide +kernel)) ggX6_blend_X6_isDeck
set_option maxRecDepth 20000 in
theorem ggX6_blend_X6_isSort : GoodIn wsX6_blend wsX6_isSort := goodIn_r _ [8] (by decide +kernel) (by decide +kernel)
set_option maxRecDepth 20000 in
theorem gX6_blend_X6_isSort : GoodIn wsX6_blend (va_wsS RX6 33 yX6_isSort wsX6_isSort) := goodIn_app (goodIn_of _ (by decide +kernel)) ggX6_blend_X6_isSort
set_option maxRecDepth 20000 in
theorem ggX6_blend_X6_goTogether : GoodIn wsX6_blend wsX6_goTogether := goodIn_r _ [11] (by decide +kernel) (by decide +kernel)
set_option maxRecDepth 20000 in
theorem gX6_blend_X6_goTogether : GoodIn wsX6_blend (va_wsS RX6 95 yX6_goTogether wsX6_goTogether) := goodIn_app (goodIn_of _ (by decide +kernel)) ggX6_blend_X6_goTogether
set_option maxRecDepth 20000 in
theorem ggX6_blend_X6_refuse : GoodIn wsX6_blend wsX6_refuse := goodIn_r _ [15, 16, 145, 146, 147, 148] (by decide +kernel) (by decide +kernel)
set_option maxRecDepth 20000 in
theorem gX6_blend_X6_refuse : GoodIn wsX6_blend (wsV RX6 38 RX6 yX6_refuse wsX6_refuse) := goodIn_app (goodIn_of _ (by decide +kernel)) ggX6_blend_X6_refuse
set_option maxRecDepth 20000 in
theorem ggX6_blend_X6_placeFault : GoodIn wsX6_blend wsX6_placeFault := goodIn_r _ [20, 21, 22, 23, 24, 4, 25, 1, 26, 2, 3, 5, 6, 7, 8, 27, 28, 29, 30, 31, 32, 33, 34, 35, 36, 37, 38, 39, 40, 41, 42, 43, 44, 45, 46, 47, 48, 49, 50, 51, 52, 53, 54, 55, 56, 57, 58, 59, 60, 61, 62, 145, 146, 147, 148, 149, 150, 151, 152] (by decide +kernel) (by decide +kernel)
set_option maxRecDepth 20000 in
theorem gX6_blend_X6_placeFault : GoodIn wsX6_blend (wsV RX6 69 RX6 yX6_placeFault wsX6_placeFault) := goodIn_app (goodIn_of _ (by decide +kernel)) ggX6_blend_X6_placeFault
set_option maxRecDepth 20000 in
theorem ggX6_blend_X6_reelOn : GoodIn wsX6_blend wsX6_reelOn := goodIn_r _ [30, 31, 145, 146, 147, 148] (by decide +kernel) (by decide +kernel)
set_option maxRecDepth 20000 in
theorem gX6_blend_X6_reelOn : GoodIn wsX6_blend (wsV RX6 58 RX6 yX6_reelOn wsX6_reelOn) := goodIn_app (goodIn_of _ (by decide +kernel)) ggX6_blend_X6_reelOn
set_option maxRecDepth 20000 in
theorem ggX6_blend_X0_level : GoodIn wsX6_blend wsX0_level := goodIn_r _ [68, 44, 149] (by decide +kernel) (by decide +kernel)
set_option maxRecDepth 20000 in
theorem gX6_blend_X0_level_u98X0 : GoodIn wsX6_blend (va_wsO RX6 98 RX0 "ReelBarn$Reel" ⟨"ReelBarn$Reel", "level", "(I)F"⟩ yX0_level wsX0_level) := goodIn_app (goodIn_of _ (by decide +kernel)) ggX6_blend_X0_level
set_option maxRecDepth 20000 in
theorem ggX6_blend_X3_level : GoodIn wsX6_blend wsX3_level := goodIn_r _ [69, 72, 73, 74, 75, 42, 76, 44, 77, 78, 79, 47, 80, 49, 81, 82, 52, 83, 54, 84, 85, 57, 86, 59, 149, 150, 151, 152] (by decide +kernel) (by decide +kernel)
set_option maxRecDepth 20000 in
theorem gX6_blend_X3_level_u98X1 : GoodIn wsX6_blend (va_wsU RX6 98 RX1 "ReelBarn$Reel" ⟨"ReelBarn$Reel", "level", "(I)F"⟩ yX3_level wsX3_level) := goodIn_app (goodIn_of _ (by decide +kernel)) ggX6_blend_X3_level
set_option maxRecDepth 20000 in
theorem gX6_blend_X3_level_u98X2 : GoodIn wsX6_blend (va_wsU RX6 98 RX2 "ReelBarn$Reel" ⟨"ReelBarn$Reel", "level", "(I)F"⟩ yX3_level wsX3_level) := goodIn_app (goodIn_of _ (by decide +kernel)) ggX6_blend_X3_level
set_option maxRecDepth 20000 in
theorem gX6_blend_X3_level_u98X5 : GoodIn wsX6_blend (va_wsU RX6 98 RX5 "ReelBarn$Reel" ⟨"ReelBarn$Reel", "level", "(I)F"⟩ yX3_level wsX3_level) := goodIn_app (goodIn_of _ (by decide +kernel)) ggX6_blend_X3_level
set_option maxRecDepth 20000 in
theorem ggX6_blend_X6_blendFloats : GoodIn wsX6_blend wsX6_blendFloats := goodIn_r _ [91, 63, 64, 65, 66, 67, 42, 68, 44, 69, 70, 71, 36, 72, 73, 74, 75, 76, 77, 78, 79, 47, 80, 49, 81, 82, 52, 83, 54, 84, 85, 57, 86, 59, 87, 88, 92, 93, 94, 95, 96, 97, 98, 99, 100, 101, 102, 103, 104, 105, 106, 107, 108, 109, 110, 111, 112, 113, 114, 115, 116, 117, 118, 119, 120, 121, 122, 123, 124, 125, 126, 149, 150, 151, 152] (by decide +kernel) (by decide +kernel)
set_option maxRecDepth 20000 in
theorem gX6_blend_X6_blendFloats : GoodIn wsX6_blend (va_wsS RX6 102 yX6_blendFloats wsX6_blendFloats) := goodIn_app (goodIn_of _ (by decide +kernel)) ggX6_blend_X6_blendFloats
set_option maxRecDepth 20000 in
theorem ggX6_blend_X6_howToBlend : GoodIn wsX6_blend wsX6_howToBlend := goodIn_r _ [129] (by decide +kernel) (by decide +kernel)
set_option maxRecDepth 20000 in
theorem gX6_blend_X6_howToBlend : GoodIn wsX6_blend (va_wsS RX6 106 yX6_howToBlend wsX6_howToBlend) := goodIn_app (goodIn_of _ (by decide +kernel)) ggX6_blend_X6_howToBlend
set_option maxRecDepth 20000 in
theorem ggX6_blend_X0_told : GoodIn wsX6_blend wsX0_told := goodIn_r _ [76, 44, 77, 149] (by decide +kernel) (by decide +kernel)
set_option maxRecDepth 20000 in
theorem gX6_blend_X0_told_u73X0 : GoodIn wsX6_blend (va_wsU RX6 73 RX0 "ReelBarn$Reel" ⟨"ReelBarn$Reel", "told", "(I)I"⟩ yX0_told wsX0_told) := goodIn_app (goodIn_of _ (by decide +kernel)) ggX6_blend_X0_told
set_option maxRecDepth 20000 in
theorem ggX6_blend_X1_told : GoodIn wsX6_blend wsX1_told := goodIn_r _ [80, 49, 150] (by decide +kernel) (by decide +kernel)
set_option maxRecDepth 20000 in
theorem gX6_blend_X1_told_u73X1 : GoodIn wsX6_blend (va_wsU RX6 73 RX1 "ReelBarn$Reel" ⟨"ReelBarn$Reel", "told", "(I)I"⟩ yX1_told wsX1_told) := goodIn_app (goodIn_of _ (by decide +kernel)) ggX6_blend_X1_told
set_option maxRecDepth 20000 in
theorem ggX6_blend_X2_told : GoodIn wsX6_blend wsX2_told := goodIn_r _ [83, 54, 151] (by decide +kernel) (by decide +kernel)
set_option maxRecDepth 20000 in
theorem gX6_blend_X2_told_u73X2 : GoodIn wsX6_blend (va_wsU RX6 73 RX2 "ReelBarn$Reel" ⟨"ReelBarn$Reel", "told", "(I)I"⟩ yX2_told wsX2_told) := goodIn_app (goodIn_of _ (by decide +kernel)) ggX6_blend_X2_told
set_option maxRecDepth 20000 in
theorem ggX6_blend_X5_told : GoodIn wsX6_blend wsX5_told := goodIn_r _ [86, 59, 152] (by decide +kernel) (by decide +kernel)
set_option maxRecDepth 20000 in
theorem gX6_blend_X5_told_u73X5 : GoodIn wsX6_blend (va_wsU RX6 73 RX5 "ReelBarn$Reel" ⟨"ReelBarn$Reel", "told", "(I)I"⟩ yX5_told wsX5_told) := goodIn_app (goodIn_of _ (by decide +kernel)) ggX6_blend_X5_told
set_option maxRecDepth 20000 in
theorem ggX6_blend_X0_change : GoodIn wsX6_blend wsX0_change := goodIn_r _ [136, 44, 111, 112, 42, 113, 77, 114, 96, 115, 97, 98, 99, 100, 101, 102, 149] (by decide +kernel) (by decide +kernel)
set_option maxRecDepth 20000 in
theorem gX6_blend_X0_change_u87X0 : GoodIn wsX6_blend (va_wsO RX6 87 RX0 "ReelBarn$Reel" ⟨"ReelBarn$Reel", "change", "(III)V"⟩ yX0_change wsX0_change) := goodIn_app (goodIn_of _ (by decide +kernel)) ggX6_blend_X0_change
set_option maxRecDepth 20000 in
theorem ggX6_blend_X3_change : GoodIn wsX6_blend wsX3_change := goodIn_r _ [137, 72, 73, 74, 75, 42, 76, 44, 77, 78, 79, 47, 80, 49, 81, 82, 52, 83, 54, 84, 85, 57, 86, 59, 140, 141, 36, 142, 106, 107, 108, 109, 110, 111, 112, 113, 114, 96, 115, 97, 98, 99, 100, 101, 102, 116, 117, 118, 119, 120, 121, 122, 123, 124, 149, 150, 151, 152] (by decide +kernel) (by decide +kernel)
set_option maxRecDepth 20000 in
theorem gX6_blend_X3_change_u87X1 : GoodIn wsX6_blend (va_wsU RX6 87 RX1 "ReelBarn$Reel" ⟨"ReelBarn$Reel", "change", "(III)V"⟩ yX3_change wsX3_change) := goodIn_app (goodIn_of _ (by decide +kernel)) ggX6_blend_X3_change
set_option maxRecDepth 20000 in
theorem gX6_blend_X3_change_u87X2 : GoodIn wsX6_blend (va_wsU RX6 87 RX2 "ReelBarn$Reel" ⟨"ReelBarn$Reel", "change", "(III)V"⟩ yX3_change wsX3_change) := goodIn_app (goodIn_of _ (by decide +kernel)) ggX6_blend_X3_change
set_option maxRecDepth 20000 in
theorem gX6_blend_X3_change_u87X5 : GoodIn wsX6_blend (va_wsU RX6 87 RX5 "ReelBarn$Reel" ⟨"ReelBarn$Reel", "change", "(III)V"⟩ yX3_change wsX3_change) := goodIn_app (goodIn_of _ (by decide +kernel)) ggX6_blend_X3_change
theorem dX6_blend_0 : decode cX6_blend 0 = .ok (.iload_n 1, 1) := by decide +kernel
theorem dX6_blend_1 : decode cX6_blend 1 = .ok (.invokestatic 29, 3) := by decide +kernel
theorem dX6_blend_4 : decode cX6_blend 4 = .ok (.ifCond .eq 19, 3) := by decide +kernel
theorem dX6_blend_7 : decode cX6_blend 7 = .ok (.iload_n 2, 1) := by decide +kernel
theorem dX6_blend_8 : decode cX6_blend 8 = .ok (.invokestatic 33, 3) := by decide +kernel
theorem dX6_blend_11 : decode cX6_blend 11 = .ok (.ifCond .eq 12, 3) := by decide +kernel
theorem dX6_blend_14 : decode cX6_blend 14 = .ok (.iload_n 2, 1) := by decide +kernel
theorem dX6_blend_15 : decode cX6_blend 15 = .ok (.iload 5, 2) := by decide +kernel
theorem dX6_blend_17 : decode cX6_blend 17 = .ok (.invokestatic 95, 3) := by decide +kernel
theorem dX6_blend_20 : decode cX6_blend 20 = .ok (.ifCond .ne 11, 3) := by decide +kernel
theorem dX6_blend_23 : decode cX6_blend 23 = .ok (.aload_n 0, 1) := by decide +kernel
theorem dX6_blend_24 : decode cX6_blend 24 = .ok (.ldc2_w 36, 3) := by decide +kernel
theorem dX6_blend_27 : decode cX6_blend 27 = .ok (.invokevirtual 38, 3) := by decide +kernel
theorem dX6_blend_30 : decode cX6_blend 30 = .ok (.lreturn, 1) := by decide +kernel
theorem dX6_blend_31 : decode cX6_blend 31 = .ok (.aload_n 0, 1) := by decide +kernel
theorem dX6_blend_32 : decode cX6_blend 32 = .ok (.iload 4, 2) := by decide +kernel
theorem dX6_blend_34 : decode cX6_blend 34 = .ok (.iload 5, 2) := by decide +kernel
theorem dX6_blend_36 : decode cX6_blend 36 = .ok (.iload 6, 2) := by decide +kernel
theorem dX6_blend_38 : decode cX6_blend 38 = .ok (.invokevirtual 69, 3) := by decide +kernel
theorem dX6_blend_41 : decode cX6_blend 41 = .ok (.lstore 8, 2) := by decide +kernel
theorem dX6_blend_43 : decode cX6_blend 43 = .ok (.lload 8, 2) := by decide +kernel
theorem dX6_blend_45 : decode cX6_blend 45 = .ok (.lconst 0, 1) := by decide +kernel
theorem dX6_blend_46 : decode cX6_blend 46 = .ok (.lcmp, 1) := by decide +kernel
theorem dX6_blend_47 : decode cX6_blend 47 = .ok (.ifCond .ne 12, 3) := by decide +kernel
theorem dX6_blend_50 : decode cX6_blend 50 = .ok (.aload_n 0, 1) := by decide +kernel
theorem dX6_blend_51 : decode cX6_blend 51 = .ok (.iload_n 1, 1) := by decide +kernel
theorem dX6_blend_52 : decode cX6_blend 52 = .ok (.iload_n 2, 1) := by decide +kernel
theorem dX6_blend_53 : decode cX6_blend 53 = .ok (.iload_n 3, 1) := by decide +kernel
theorem dX6_blend_54 : decode cX6_blend 54 = .ok (.invokevirtual 69, 3) := by decide +kernel
theorem dX6_blend_57 : decode cX6_blend 57 = .ok (.lstore 8, 2) := by decide +kernel
theorem dX6_blend_59 : decode cX6_blend 59 = .ok (.lload 8, 2) := by decide +kernel
theorem dX6_blend_61 : decode cX6_blend 61 = .ok (.lconst 0, 1) := by decide +kernel
theorem dX6_blend_62 : decode cX6_blend 62 = .ok (.lcmp, 1) := by decide +kernel
theorem dX6_blend_63 : decode cX6_blend 63 = .ok (.ifCond .eq 10, 3) := by decide +kernel
theorem dX6_blend_66 : decode cX6_blend 66 = .ok (.aload_n 0, 1) := by decide +kernel
theorem dX6_blend_67 : decode cX6_blend 67 = .ok (.lload 8, 2) := by decide +kernel
theorem dX6_blend_69 : decode cX6_blend 69 = .ok (.invokevirtual 38, 3) := by decide +kernel
theorem dX6_blend_72 : decode cX6_blend 72 = .ok (.lreturn, 1) := by decide +kernel
theorem dX6_blend_73 : decode cX6_blend 73 = .ok (.aload_n 0, 1) := by decide +kernel
theorem dX6_blend_74 : decode cX6_blend 74 = .ok (.iload_n 1, 1) := by decide +kernel
theorem dX6_blend_75 : decode cX6_blend 75 = .ok (.iload_n 2, 1) := by decide +kernel
theorem dX6_blend_76 : decode cX6_blend 76 = .ok (.invokevirtual 58, 3) := by decide +kernel
theorem dX6_blend_79 : decode cX6_blend 79 = .ok (.astore 10, 2) := by decide +kernel
theorem dX6_blend_81 : decode cX6_blend 81 = .ok (.aload_n 0, 1) := by decide +kernel
theorem dX6_blend_82 : decode cX6_blend 82 = .ok (.iload 4, 2) := by decide +kernel
theorem dX6_blend_84 : decode cX6_blend 84 = .ok (.iload 5, 2) := by decide +kernel
theorem dX6_blend_86 : decode cX6_blend 86 = .ok (.invokevirtual 58, 3) := by decide +kernel
theorem dX6_blend_89 : decode cX6_blend 89 = .ok (.astore 11, 2) := by decide +kernel
theorem dX6_blend_91 : decode cX6_blend 91 = .ok (.iload_n 2, 1) := by decide +kernel
theorem dX6_blend_92 : decode cX6_blend 92 = .ok (.iconst 2, 1) := by decide +kernel
theorem dX6_blend_93 : decode cX6_blend 93 = .ok (.if_icmp .eq 9, 3) := by decide +kernel
theorem dX6_blend_96 : decode cX6_blend 96 = .ok (.iload 5, 2) := by decide +kernel
theorem dX6_blend_98 : decode cX6_blend 98 = .ok (.iconst 2, 1) := by decide +kernel
theorem dX6_blend_99 : decode cX6_blend 99 = .ok (.if_icmp .ne 21, 3) := by decide +kernel
theorem dX6_blend_102 : decode cX6_blend 102 = .ok (.aload 10, 2) := by decide +kernel
theorem dX6_blend_104 : decode cX6_blend 104 = .ok (.iload_n 3, 1) := by decide +kernel
theorem dX6_blend_105 : decode cX6_blend 105 = .ok (.aload 11, 2) := by decide +kernel
theorem dX6_blend_107 : decode cX6_blend 107 = .ok (.iload 6, 2) := by decide +kernel
theorem dX6_blend_109 : decode cX6_blend 109 = .ok (.invokevirtual 98, 3) := by decide +kernel
theorem dX6_blend_112 : decode cX6_blend 112 = .ok (.iload 7, 2) := by decide +kernel
theorem dX6_blend_114 : decode cX6_blend 114 = .ok (.invokestatic 102, 3) := by decide +kernel
theorem dX6_blend_117 : decode cX6_blend 117 = .ok (.goto 22, 3) := by decide +kernel
theorem dX6_blend_120 : decode cX6_blend 120 = .ok (.aload 10, 2) := by decide +kernel
theorem dX6_blend_122 : decode cX6_blend 122 = .ok (.iload_n 3, 1) := by decide +kernel
theorem dX6_blend_123 : decode cX6_blend 123 = .ok (.iload_n 2, 1) := by decide +kernel
theorem dX6_blend_124 : decode cX6_blend 124 = .ok (.iload 7, 2) := by decide +kernel
theorem dX6_blend_126 : decode cX6_blend 126 = .ok (.invokestatic 106, 3) := by decide +kernel
theorem dX6_blend_129 : decode cX6_blend 129 = .ok (.aload 11, 2) := by decide +kernel
theorem dX6_blend_131 : decode cX6_blend 131 = .ok (.iload 6, 2) := by decide +kernel
theorem dX6_blend_133 : decode cX6_blend 133 = .ok (.invokevirtual 73, 3) := by decide +kernel
theorem dX6_blend_136 : decode cX6_blend 136 = .ok (.invokevirtual 87, 3) := by decide +kernel
theorem dX6_blend_139 : decode cX6_blend 139 = .ok (.aload 10, 2) := by decide +kernel
theorem dX6_blend_141 : decode cX6_blend 141 = .ok (.iload_n 3, 1) := by decide +kernel
theorem dX6_blend_142 : decode cX6_blend 142 = .ok (.invokevirtual 73, 3) := by decide +kernel
theorem dX6_blend_145 : decode cX6_blend 145 = .ok (.i2l, 1) := by decide +kernel
theorem dX6_blend_146 : decode cX6_blend 146 = .ok (.lreturn, 1) := by decide +kernel
set_option maxRecDepth 20000 in
theorem ggX6_hang_X6_isSort : GoodIn wsX6_hang wsX6_isSort := goodIn_r _ [6] (by decide +kernel) (by decide +kernel)
set_option maxRecDepth 20000 in
theorem gX6_hang_X6_isSort : GoodIn wsX6_hang (va_wsS RX6 33 yX6_isSort wsX6_isSort) := goodIn_app (goodIn_of _ (by decide +kernel)) ggX6_hang_X6_isSort
set_option maxRecDepth 20000 in
theorem ggX6_hang_X6_refuse : GoodIn wsX6_hang wsX6_refuse := goodIn_r _ [10, 11, 71, 72, 73, 74] (by decide +kernel) (by decide +kernel)
set_option maxRecDepth 20000 in
theorem gX6_hang_X6_refuse : GoodIn wsX6_hang (wsV RX6 38 RX6 yX6_refuse wsX6_refuse) := goodIn_app (goodIn_of _ (by decide +kernel)) ggX6_hang_X6_refuse
set_option maxRecDepth 20000 in
theorem ggX6_hang_X6_gridFault : GoodIn wsX6_hang wsX6_gridFault := goodIn_r _ [14, 15, 16] (by decide +kernel) (by decide +kernel)
set_option maxRecDepth 20000 in
theorem gX6_hang_X6_gridFault : GoodIn wsX6_hang (va_wsS RX6 110 yX6_gridFault wsX6_gridFault) := goodIn_app (goodIn_of _ (by decide +kernel)) ggX6_hang_X6_gridFault
set_option maxRecDepth 20000 in
theorem ggX6_hang_X6_newWall : GoodIn wsX6_hang wsX6_newWall := goodIn_r _ [19, 20, 21, 22, 23, 24, 25, 26, 27, 28, 29, 30, 31, 32, 33, 5, 34, 35, 36, 37, 38, 39, 40, 41, 42, 43, 44, 45, 46, 47, 48, 49, 50, 51, 52, 53, 54, 55, 56, 57, 58, 59, 60, 61, 62, 63, 64, 65, 66, 67, 68, 69, 70, 75, 76, 77, 78, 79] (by decide +kernel) (by decide +kernel)
set_option maxRecDepth 20000 in
theorem gX6_hang_X6_newWall : GoodIn wsX6_hang (va_wsS RX6 113 yX6_newWall wsX6_newWall) := goodIn_app (goodIn_of _ (by decide +kernel)) ggX6_hang_X6_newWall
theorem dX6_hang_0 : decode cX6_hang 0 = .ok (.iload_n 1, 1) := by decide +kernel
theorem dX6_hang_1 : decode cX6_hang 1 = .ok (.invokestatic 33, 3) := by decide +kernel
theorem dX6_hang_4 : decode cX6_hang 4 = .ok (.ifCond .ne 11, 3) := by decide +kernel
theorem dX6_hang_7 : decode cX6_hang 7 = .ok (.aload_n 0, 1) := by decide +kernel
theorem dX6_hang_8 : decode cX6_hang 8 = .ok (.ldc2_w 36, 3) := by decide +kernel
theorem dX6_hang_11 : decode cX6_hang 11 = .ok (.invokevirtual 38, 3) := by decide +kernel
theorem dX6_hang_14 : decode cX6_hang 14 = .ok (.lreturn, 1) := by decide +kernel
theorem dX6_hang_15 : decode cX6_hang 15 = .ok (.iload_n 2, 1) := by decide +kernel
theorem dX6_hang_16 : decode cX6_hang 16 = .ok (.iload_n 3, 1) := by decide +kernel
theorem dX6_hang_17 : decode cX6_hang 17 = .ok (.invokestatic 110, 3) := by decide +kernel
theorem dX6_hang_20 : decode cX6_hang 20 = .ok (.lstore 4, 2) := by decide +kernel
theorem dX6_hang_22 : decode cX6_hang 22 = .ok (.lload 4, 2) := by decide +kernel
theorem dX6_hang_24 : decode cX6_hang 24 = .ok (.lconst 0, 1) := by decide +kernel
theorem dX6_hang_25 : decode cX6_hang 25 = .ok (.lcmp, 1) := by decide +kernel
theorem dX6_hang_26 : decode cX6_hang 26 = .ok (.ifCond .eq 10, 3) := by decide +kernel
theorem dX6_hang_29 : decode cX6_hang 29 = .ok (.aload_n 0, 1) := by decide +kernel
theorem dX6_hang_30 : decode cX6_hang 30 = .ok (.lload 4, 2) := by decide +kernel
theorem dX6_hang_32 : decode cX6_hang 32 = .ok (.invokevirtual 38, 3) := by decide +kernel
theorem dX6_hang_35 : decode cX6_hang 35 = .ok (.lreturn, 1) := by decide +kernel
theorem dX6_hang_36 : decode cX6_hang 36 = .ok (.aload_n 0, 1) := by decide +kernel
theorem dX6_hang_37 : decode cX6_hang 37 = .ok (.getfield 17, 3) := by decide +kernel
theorem dX6_hang_40 : decode cX6_hang 40 = .ok (.iload_n 1, 1) := by decide +kernel
theorem dX6_hang_41 : decode cX6_hang 41 = .ok (.iload_n 1, 1) := by decide +kernel
theorem dX6_hang_42 : decode cX6_hang 42 = .ok (.iload_n 2, 1) := by decide +kernel
theorem dX6_hang_43 : decode cX6_hang 43 = .ok (.iload_n 3, 1) := by decide +kernel
theorem dX6_hang_44 : decode cX6_hang 44 = .ok (.invokestatic 113, 3) := by decide +kernel
theorem dX6_hang_47 : decode cX6_hang 47 = .ok (.aastore, 1) := by decide +kernel
theorem dX6_hang_48 : decode cX6_hang 48 = .ok (.iload_n 2, 1) := by decide +kernel
theorem dX6_hang_49 : decode cX6_hang 49 = .ok (.i2l, 1) := by decide +kernel
theorem dX6_hang_50 : decode cX6_hang 50 = .ok (.lreturn, 1) := by decide +kernel
set_option maxRecDepth 20000 in
theorem ggX6_pin_X6_isDeck : GoodIn wsX6_pin wsX6_isDeck := goodIn_r _ [7] (by decide +kernel) (by decide +kernel)
set_option maxRecDepth 20000 in
theorem gX6_pin_X6_isDeck : GoodIn wsX6_pin (va_wsS RX6 29 yX6_isDeck wsX6_isDeck) := goodIn_app (goodIn_of _ (by decide +kernel)) ggX6_pin_X6_isDeck
set_option maxRecDepth 20000 in
theorem ggX6_pin_X6_refuse : GoodIn wsX6_pin wsX6_refuse := goodIn_r _ [11, 12, 34, 35, 36, 37] (by decide +kernel) (by decide +kernel)
set_option maxRecDepth 20000 in
theorem gX6_pin_X6_refuse : GoodIn wsX6_pin (wsV RX6 38 RX6 yX6_refuse wsX6_refuse) := goodIn_app (goodIn_of _ (by decide +kernel)) ggX6_pin_X6_refuse
set_option maxRecDepth 20000 in
theorem ggX6_pin_X6_rowFault : GoodIn wsX6_pin wsX6_rowFault := goodIn_r _ [16, 2, 3, 17, 18, 19, 20, 6, 21, 1, 22, 23, 24, 25, 34, 35, 36, 37, 38] (by decide +kernel) (by decide +kernel)
set_option maxRecDepth 20000 in
theorem gX6_pin_X6_rowFault : GoodIn wsX6_pin (wsV RX6 117 RX6 yX6_rowFault wsX6_rowFault) := goodIn_app (goodIn_of _ (by decide +kernel)) ggX6_pin_X6_rowFault
set_option maxRecDepth 20000 in
theorem ggX6_pin_X6_reelOn : GoodIn wsX6_pin wsX6_reelOn := goodIn_r _ [29, 30, 34, 35, 36, 37] (by decide +kernel) (by decide +kernel)
set_option maxRecDepth 20000 in
theorem gX6_pin_X6_reelOn : GoodIn wsX6_pin (wsV RX6 58 RX6 yX6_reelOn wsX6_reelOn) := goodIn_app (goodIn_of _ (by decide +kernel)) ggX6_pin_X6_reelOn
set_option maxRecDepth 20000 in
theorem ggX6_pin_X6_oneIfThere : GoodIn wsX6_pin wsX6_oneIfThere := goodIn_r _ [33] (by decide +kernel) (by decide +kernel)
set_option maxRecDepth 20000 in
theorem gX6_pin_X6_oneIfThere : GoodIn wsX6_pin (va_wsS RX6 65 yX6_oneIfThere wsX6_oneIfThere) := goodIn_app (goodIn_of _ (by decide +kernel)) ggX6_pin_X6_oneIfThere
theorem dX6_pin_0 : decode cX6_pin 0 = .ok (.iload_n 3, 1) := by decide +kernel
theorem dX6_pin_1 : decode cX6_pin 1 = .ok (.invokestatic 29, 3) := by decide +kernel
theorem dX6_pin_4 : decode cX6_pin 4 = .ok (.ifCond .ne 11, 3) := by decide +kernel
theorem dX6_pin_7 : decode cX6_pin 7 = .ok (.aload_n 0, 1) := by decide +kernel
theorem dX6_pin_8 : decode cX6_pin 8 = .ok (.ldc2_w 36, 3) := by decide +kernel
theorem dX6_pin_11 : decode cX6_pin 11 = .ok (.invokevirtual 38, 3) := by decide +kernel
theorem dX6_pin_14 : decode cX6_pin 14 = .ok (.lreturn, 1) := by decide +kernel
theorem dX6_pin_15 : decode cX6_pin 15 = .ok (.aload_n 0, 1) := by decide +kernel
theorem dX6_pin_16 : decode cX6_pin 16 = .ok (.iload_n 1, 1) := by decide +kernel
theorem dX6_pin_17 : decode cX6_pin 17 = .ok (.iload_n 2, 1) := by decide +kernel
theorem dX6_pin_18 : decode cX6_pin 18 = .ok (.invokevirtual 117, 3) := by decide +kernel
theorem dX6_pin_21 : decode cX6_pin 21 = .ok (.lstore 4, 2) := by decide +kernel
theorem dX6_pin_23 : decode cX6_pin 23 = .ok (.lload 4, 2) := by decide +kernel
theorem dX6_pin_25 : decode cX6_pin 25 = .ok (.lconst 0, 1) := by decide +kernel
theorem dX6_pin_26 : decode cX6_pin 26 = .ok (.lcmp, 1) := by decide +kernel
theorem dX6_pin_27 : decode cX6_pin 27 = .ok (.ifCond .eq 10, 3) := by decide +kernel
theorem dX6_pin_30 : decode cX6_pin 30 = .ok (.aload_n 0, 1) := by decide +kernel
theorem dX6_pin_31 : decode cX6_pin 31 = .ok (.lload 4, 2) := by decide +kernel
theorem dX6_pin_33 : decode cX6_pin 33 = .ok (.invokevirtual 38, 3) := by decide +kernel
theorem dX6_pin_36 : decode cX6_pin 36 = .ok (.lreturn, 1) := by decide +kernel
theorem dX6_pin_37 : decode cX6_pin 37 = .ok (.aload_n 0, 1) := by decide +kernel
theorem dX6_pin_38 : decode cX6_pin 38 = .ok (.iload_n 3, 1) := by decide +kernel
theorem dX6_pin_39 : decode cX6_pin 39 = .ok (.iload_n 1, 1) := by decide +kernel
theorem dX6_pin_40 : decode cX6_pin 40 = .ok (.invokevirtual 58, 3) := by decide +kernel
theorem dX6_pin_43 : decode cX6_pin 43 = .ok (.astore 6, 2) := by decide +kernel
theorem dX6_pin_45 : decode cX6_pin 45 = .ok (.aload_n 0, 1) := by decide +kernel
theorem dX6_pin_46 : decode cX6_pin 46 = .ok (.getfield 17, 3) := by decide +kernel
theorem dX6_pin_49 : decode cX6_pin 49 = .ok (.iload_n 1, 1) := by decide +kernel
theorem dX6_pin_50 : decode cX6_pin 50 = .ok (.aaload, 1) := by decide +kernel
theorem dX6_pin_51 : decode cX6_pin 51 = .ok (.getfield 120, 3) := by decide +kernel
theorem dX6_pin_54 : decode cX6_pin 54 = .ok (.iload_n 2, 1) := by decide +kernel
theorem dX6_pin_55 : decode cX6_pin 55 = .ok (.aload 6, 2) := by decide +kernel
theorem dX6_pin_57 : decode cX6_pin 57 = .ok (.aastore, 1) := by decide +kernel
theorem dX6_pin_58 : decode cX6_pin 58 = .ok (.aload 6, 2) := by decide +kernel
theorem dX6_pin_60 : decode cX6_pin 60 = .ok (.invokestatic 65, 3) := by decide +kernel
theorem dX6_pin_63 : decode cX6_pin 63 = .ok (.lreturn, 1) := by decide +kernel
set_option maxRecDepth 20000 in
theorem ggX6_peel_X6_isDeck : GoodIn wsX6_peel wsX6_isDeck := goodIn_r _ [7] (by decide +kernel) (by decide +kernel)
set_option maxRecDepth 20000 in
theorem gX6_peel_X6_isDeck : GoodIn wsX6_peel (va_wsS RX6 29 yX6_isDeck wsX6_isDeck) := goodIn_app (goodIn_of _ (by decide +kernel)) ggX6_peel_X6_isDeck
set_option maxRecDepth 20000 in
theorem ggX6_peel_X6_refuse : GoodIn wsX6_peel wsX6_refuse := goodIn_r _ [11, 12, 34, 35, 36, 37] (by decide +kernel) (by decide +kernel)
set_option maxRecDepth 20000 in
theorem gX6_peel_X6_refuse : GoodIn wsX6_peel (wsV RX6 38 RX6 yX6_refuse wsX6_refuse) := goodIn_app (goodIn_of _ (by decide +kernel)) ggX6_peel_X6_refuse
set_option maxRecDepth 20000 in
theorem ggX6_peel_X6_rowFault : GoodIn wsX6_peel wsX6_rowFault := goodIn_r _ [16, 2, 3, 17, 18, 19, 20, 6, 21, 1, 22, 23, 24, 25, 34, 35, 36, 37, 38] (by decide +kernel) (by decide +kernel)
set_option maxRecDepth 20000 in
theorem gX6_peel_X6_rowFault : GoodIn wsX6_peel (wsV RX6 117 RX6 yX6_rowFault wsX6_rowFault) := goodIn_app (goodIn_of _ (by decide +kernel)) ggX6_peel_X6_rowFault
set_option maxRecDepth 20000 in
theorem ggX6_peel_X6_carry : GoodIn wsX6_peel wsX6_carry := goodIn_r _ [29, 30, 34, 35, 36, 37] (by decide +kernel) (by decide +kernel)
set_option maxRecDepth 20000 in
theorem gX6_peel_X6_carry : GoodIn wsX6_peel (wsV RX6 50 RX6 yX6_carry wsX6_carry) := goodIn_app (goodIn_of _ (by decide +kernel)) ggX6_peel_X6_carry
set_option maxRecDepth 20000 in
theorem ggX6_peel_X6_oneIfThere : GoodIn wsX6_peel wsX6_oneIfThere := goodIn_r _ [33] (by decide +kernel) (by decide +kernel)
set_option maxRecDepth 20000 in
theorem gX6_peel_X6_oneIfThere : GoodIn wsX6_peel (va_wsS RX6 65 yX6_oneIfThere wsX6_oneIfThere) := goodIn_app (goodIn_of _ (by decide +kernel)) ggX6_peel_X6_oneIfThere
theorem dX6_peel_0 : decode cX6_peel 0 = .ok (.iload_n 3, 1) := by decide +kernel
theorem dX6_peel_1 : decode cX6_peel 1 = .ok (.invokestatic 29, 3) := by decide +kernel
theorem dX6_peel_4 : decode cX6_peel 4 = .ok (.ifCond .ne 11, 3) := by decide +kernel
theorem dX6_peel_7 : decode cX6_peel 7 = .ok (.aload_n 0, 1) := by decide +kernel
theorem dX6_peel_8 : decode cX6_peel 8 = .ok (.ldc2_w 36, 3) := by decide +kernel
theorem dX6_peel_11 : decode cX6_peel 11 = .ok (.invokevirtual 38, 3) := by decide +kernel
theorem dX6_peel_14 : decode cX6_peel 14 = .ok (.lreturn, 1) := by decide +kernel
theorem dX6_peel_15 : decode cX6_peel 15 = .ok (.aload_n 0, 1) := by decide +kernel
theorem dX6_peel_16 : decode cX6_peel 16 = .ok (.iload_n 1, 1) := by decide +kernel
theorem dX6_peel_17 : decode cX6_peel 17 = .ok (.iload_n 2, 1) := by decide +kernel
theorem dX6_peel_18 : decode cX6_peel 18 = .ok (.invokevirtual 117, 3) := by decide +kernel
theorem dX6_peel_21 : decode cX6_peel 21 = .ok (.lstore 4, 2) := by decide +kernel
theorem dX6_peel_23 : decode cX6_peel 23 = .ok (.lload 4, 2) := by decide +kernel
theorem dX6_peel_25 : decode cX6_peel 25 = .ok (.lconst 0, 1) := by decide +kernel
theorem dX6_peel_26 : decode cX6_peel 26 = .ok (.lcmp, 1) := by decide +kernel
theorem dX6_peel_27 : decode cX6_peel 27 = .ok (.ifCond .eq 10, 3) := by decide +kernel
theorem dX6_peel_30 : decode cX6_peel 30 = .ok (.aload_n 0, 1) := by decide +kernel
theorem dX6_peel_31 : decode cX6_peel 31 = .ok (.lload 4, 2) := by decide +kernel
theorem dX6_peel_33 : decode cX6_peel 33 = .ok (.invokevirtual 38, 3) := by decide +kernel
theorem dX6_peel_36 : decode cX6_peel 36 = .ok (.lreturn, 1) := by decide +kernel
theorem dX6_peel_37 : decode cX6_peel 37 = .ok (.aload_n 0, 1) := by decide +kernel
theorem dX6_peel_38 : decode cX6_peel 38 = .ok (.getfield 17, 3) := by decide +kernel
theorem dX6_peel_41 : decode cX6_peel 41 = .ok (.iload_n 1, 1) := by decide +kernel
theorem dX6_peel_42 : decode cX6_peel 42 = .ok (.aaload, 1) := by decide +kernel
theorem dX6_peel_43 : decode cX6_peel 43 = .ok (.getfield 120, 3) := by decide +kernel
theorem dX6_peel_46 : decode cX6_peel 46 = .ok (.iload_n 2, 1) := by decide +kernel
theorem dX6_peel_47 : decode cX6_peel 47 = .ok (.aaload, 1) := by decide +kernel
theorem dX6_peel_48 : decode cX6_peel 48 = .ok (.astore 6, 2) := by decide +kernel
theorem dX6_peel_50 : decode cX6_peel 50 = .ok (.aload_n 0, 1) := by decide +kernel
theorem dX6_peel_51 : decode cX6_peel 51 = .ok (.iload_n 3, 1) := by decide +kernel
theorem dX6_peel_52 : decode cX6_peel 52 = .ok (.iload_n 1, 1) := by decide +kernel
theorem dX6_peel_53 : decode cX6_peel 53 = .ok (.aload 6, 2) := by decide +kernel
theorem dX6_peel_55 : decode cX6_peel 55 = .ok (.invokevirtual 50, 3) := by decide +kernel
theorem dX6_peel_58 : decode cX6_peel 58 = .ok (.aload 6, 2) := by decide +kernel
theorem dX6_peel_60 : decode cX6_peel 60 = .ok (.invokestatic 65, 3) := by decide +kernel
theorem dX6_peel_63 : decode cX6_peel 63 = .ok (.lreturn, 1) := by decide +kernel
set_option maxRecDepth 20000 in
theorem ggX6_spot_X6_wallPlaceFault : GoodIn wsX6_spot wsX6_wallPlaceFault := goodIn_r _ [7, 1, 2, 8, 9, 10, 11, 6, 12, 13, 14, 15, 16, 17, 18, 19, 20, 21, 22, 23, 24, 25, 26, 27, 28, 29, 30, 31, 32, 33, 34, 35, 36, 37, 38, 39, 40, 41, 42, 43, 44, 45, 46, 47, 48, 49, 50, 51, 52, 53, 54, 55, 56, 57, 78, 79, 80, 81, 82, 83, 84, 85, 86] (by decide +kernel) (by decide +kernel)
set_option maxRecDepth 20000 in
theorem gX6_spot_X6_wallPlaceFault : GoodIn wsX6_spot (wsV RX6 123 RX6 yX6_wallPlaceFault wsX6_wallPlaceFault) := goodIn_app (goodIn_of _ (by decide +kernel)) ggX6_spot_X6_wallPlaceFault
set_option maxRecDepth 20000 in
theorem ggX6_spot_X6_refuse : GoodIn wsX6_spot wsX6_refuse := goodIn_r _ [61, 62, 78, 79, 80, 81] (by decide +kernel) (by decide +kernel)
set_option maxRecDepth 20000 in
theorem gX6_spot_X6_refuse : GoodIn wsX6_spot (wsV RX6 38 RX6 yX6_refuse wsX6_refuse) := goodIn_app (goodIn_of _ (by decide +kernel)) ggX6_spot_X6_refuse
set_option maxRecDepth 20000 in
theorem ggX6_spot_X0_told : GoodIn wsX6_spot wsX0_told := goodIn_r _ [67, 39, 68, 83] (by decide +kernel) (by decide +kernel)
set_option maxRecDepth 20000 in
theorem gX6_spot_X0_told_u73X0 : GoodIn wsX6_spot (va_wsU RX6 73 RX0 "ReelBarn$Reel" ⟨"ReelBarn$Reel", "told", "(I)I"⟩ yX0_told wsX0_told) := goodIn_app (goodIn_of _ (by decide +kernel)) ggX6_spot_X0_told
set_option maxRecDepth 20000 in
theorem ggX6_spot_X1_told : GoodIn wsX6_spot wsX1_told := goodIn_r _ [71, 44, 84] (by decide +kernel) (by decide +kernel)
set_option maxRecDepth 20000 in
theorem gX6_spot_X1_told_u73X1 : GoodIn wsX6_spot (va_wsU RX6 73 RX1 "ReelBarn$Reel" ⟨"ReelBarn$Reel", "told", "(I)I"⟩ yX1_told wsX1_told) := goodIn_app (goodIn_of _ (by decide +kernel)) ggX6_spot_X1_told
set_option maxRecDepth 20000 in
theorem ggX6_spot_X2_told : GoodIn wsX6_spot wsX2_told := goodIn_r _ [74, 49, 85] (by decide +kernel) (by decide +kernel)
set_option maxRecDepth 20000 in
theorem gX6_spot_X2_told_u73X2 : GoodIn wsX6_spot (va_wsU RX6 73 RX2 "ReelBarn$Reel" ⟨"ReelBarn$Reel", "told", "(I)I"⟩ yX2_told wsX2_told) := goodIn_app (goodIn_of _ (by decide +kernel)) ggX6_spot_X2_told
set_option maxRecDepth 20000 in
theorem ggX6_spot_X5_told : GoodIn wsX6_spot wsX5_told := goodIn_r _ [77, 54, 86] (by decide +kernel) (by decide +kernel)
set_option maxRecDepth 20000 in
theorem gX6_spot_X5_told_u73X5 : GoodIn wsX6_spot (va_wsU RX6 73 RX5 "ReelBarn$Reel" ⟨"ReelBarn$Reel", "told", "(I)I"⟩ yX5_told wsX5_told) := goodIn_app (goodIn_of _ (by decide +kernel)) ggX6_spot_X5_told
theorem dX6_spot_0 : decode cX6_spot 0 = .ok (.aload_n 0, 1) := by decide +kernel
theorem dX6_spot_1 : decode cX6_spot 1 = .ok (.iload_n 1, 1) := by decide +kernel
theorem dX6_spot_2 : decode cX6_spot 2 = .ok (.iload_n 2, 1) := by decide +kernel
theorem dX6_spot_3 : decode cX6_spot 3 = .ok (.iload_n 3, 1) := by decide +kernel
theorem dX6_spot_4 : decode cX6_spot 4 = .ok (.invokevirtual 123, 3) := by decide +kernel
theorem dX6_spot_7 : decode cX6_spot 7 = .ok (.lstore 4, 2) := by decide +kernel
theorem dX6_spot_9 : decode cX6_spot 9 = .ok (.lload 4, 2) := by decide +kernel
theorem dX6_spot_11 : decode cX6_spot 11 = .ok (.lconst 0, 1) := by decide +kernel
theorem dX6_spot_12 : decode cX6_spot 12 = .ok (.lcmp, 1) := by decide +kernel
theorem dX6_spot_13 : decode cX6_spot 13 = .ok (.ifCond .eq 10, 3) := by decide +kernel
theorem dX6_spot_16 : decode cX6_spot 16 = .ok (.aload_n 0, 1) := by decide +kernel
theorem dX6_spot_17 : decode cX6_spot 17 = .ok (.lload 4, 2) := by decide +kernel
theorem dX6_spot_19 : decode cX6_spot 19 = .ok (.invokevirtual 38, 3) := by decide +kernel
theorem dX6_spot_22 : decode cX6_spot 22 = .ok (.lreturn, 1) := by decide +kernel
theorem dX6_spot_23 : decode cX6_spot 23 = .ok (.aload_n 0, 1) := by decide +kernel
theorem dX6_spot_24 : decode cX6_spot 24 = .ok (.getfield 17, 3) := by decide +kernel
theorem dX6_spot_27 : decode cX6_spot 27 = .ok (.iload_n 1, 1) := by decide +kernel
theorem dX6_spot_28 : decode cX6_spot 28 = .ok (.aaload, 1) := by decide +kernel
theorem dX6_spot_29 : decode cX6_spot 29 = .ok (.getfield 120, 3) := by decide +kernel
theorem dX6_spot_32 : decode cX6_spot 32 = .ok (.iload_n 2, 1) := by decide +kernel
theorem dX6_spot_33 : decode cX6_spot 33 = .ok (.aaload, 1) := by decide +kernel
theorem dX6_spot_34 : decode cX6_spot 34 = .ok (.iload_n 3, 1) := by decide +kernel
theorem dX6_spot_35 : decode cX6_spot 35 = .ok (.invokevirtual 73, 3) := by decide +kernel
theorem dX6_spot_38 : decode cX6_spot 38 = .ok (.i2l, 1) := by decide +kernel
theorem dX6_spot_39 : decode cX6_spot 39 = .ok (.lreturn, 1) := by decide +kernel
set_option maxRecDepth 20000 in
theorem ggX6_paint_X6_wallPlaceFault : GoodIn wsX6_paint wsX6_wallPlaceFault := goodIn_r _ [7, 1, 2, 8, 9, 10, 11, 6, 12, 13, 14, 15, 16, 17, 18, 19, 20, 21, 22, 23, 24, 25, 26, 27, 28, 29, 30, 31, 32, 33, 34, 35, 36, 37, 38, 39, 40, 41, 42, 43, 44, 45, 46, 47, 48, 49, 50, 51, 52, 53, 54, 55, 56, 57, 104, 105, 106, 107, 108, 109, 110, 111, 112] (by decide +kernel) (by decide +kernel)
set_option maxRecDepth 20000 in
theorem gX6_paint_X6_wallPlaceFault : GoodIn wsX6_paint (wsV RX6 123 RX6 yX6_wallPlaceFault wsX6_wallPlaceFault) := goodIn_app (goodIn_of _ (by decide +kernel)) ggX6_paint_X6_wallPlaceFault
set_option maxRecDepth 20000 in
theorem ggX6_paint_X6_refuse : GoodIn wsX6_paint wsX6_refuse := goodIn_r _ [61, 62, 104, 105, 106, 107] (by decide +kernel) (by decide +kernel)
set_option maxRecDepth 20000 in
theorem gX6_paint_X6_refuse : GoodIn wsX6_paint (wsV RX6 38 RX6 yX6_refuse wsX6_refuse) := goodIn_app (goodIn_of _ (by decide +kernel)) ggX6_paint_X6_refuse
set_option maxRecDepth 20000 in
theorem ggX6_paint_X0_put : GoodIn wsX6_paint wsX0_put := goodIn_r _ [67, 68, 69, 37, 70, 71, 72, 73, 74, 75, 39, 76, 77, 78, 79, 80, 109] (by decide +kernel) (by decide +kernel)
set_option maxRecDepth 20000 in
theorem gX6_paint_X0_put_u77X0 : GoodIn wsX6_paint (va_wsU RX6 77 RX0 "ReelBarn$Reel" ⟨"ReelBarn$Reel", "put", "(II)V"⟩ yX0_put wsX0_put) := goodIn_app (goodIn_of _ (by decide +kernel)) ggX6_paint_X0_put
set_option maxRecDepth 20000 in
theorem ggX6_paint_X1_put : GoodIn wsX6_paint wsX1_put := goodIn_r _ [83, 44, 110] (by decide +kernel) (by decide +kernel)
set_option maxRecDepth 20000 in
theorem gX6_paint_X1_put_u77X1 : GoodIn wsX6_paint (va_wsU RX6 77 RX1 "ReelBarn$Reel" ⟨"ReelBarn$Reel", "put", "(II)V"⟩ yX1_put wsX1_put) := goodIn_app (goodIn_of _ (by decide +kernel)) ggX6_paint_X1_put
set_option maxRecDepth 20000 in
theorem ggX6_paint_X2_put : GoodIn wsX6_paint wsX2_put := goodIn_r _ [86, 49, 111] (by decide +kernel) (by decide +kernel)
set_option maxRecDepth 20000 in
theorem gX6_paint_X2_put_u77X2 : GoodIn wsX6_paint (va_wsU RX6 77 RX2 "ReelBarn$Reel" ⟨"ReelBarn$Reel", "put", "(II)V"⟩ yX2_put wsX2_put) := goodIn_app (goodIn_of _ (by decide +kernel)) ggX6_paint_X2_put
set_option maxRecDepth 20000 in
theorem ggX6_paint_X5_put : GoodIn wsX6_paint wsX5_put := goodIn_r _ [89, 54, 112] (by decide +kernel) (by decide +kernel)
set_option maxRecDepth 20000 in
theorem gX6_paint_X5_put_u77X5 : GoodIn wsX6_paint (va_wsU RX6 77 RX5 "ReelBarn$Reel" ⟨"ReelBarn$Reel", "put", "(II)V"⟩ yX5_put wsX5_put) := goodIn_app (goodIn_of _ (by decide +kernel)) ggX6_paint_X5_put
set_option maxRecDepth 20000 in
theorem ggX6_paint_X0_told : GoodIn wsX6_paint wsX0_told := goodIn_r _ [94, 39, 71, 109] (by decide +kernel) (by decide +kernel)
set_option maxRecDepth 20000 in
theorem gX6_paint_X0_told_u73X0 : GoodIn wsX6_paint (va_wsU RX6 73 RX0 "ReelBarn$Reel" ⟨"ReelBarn$Reel", "told", "(I)I"⟩ yX0_told wsX0_told) := goodIn_app (goodIn_of _ (by decide +kernel)) ggX6_paint_X0_told
set_option maxRecDepth 20000 in
theorem ggX6_paint_X1_told : GoodIn wsX6_paint wsX1_told := goodIn_r _ [97, 44, 110] (by decide +kernel) (by decide +kernel)
set_option maxRecDepth 20000 in
theorem gX6_paint_X1_told_u73X1 : GoodIn wsX6_paint (va_wsU RX6 73 RX1 "ReelBarn$Reel" ⟨"ReelBarn$Reel", "told", "(I)I"⟩ yX1_told wsX1_told) := goodIn_app (goodIn_of _ (by decide +kernel)) ggX6_paint_X1_told
set_option maxRecDepth 20000 in
theorem ggX6_paint_X2_told : GoodIn wsX6_paint wsX2_told := goodIn_r _ [100, 49, 111] (by decide +kernel) (by decide +kernel)
set_option maxRecDepth 20000 in
theorem gX6_paint_X2_told_u73X2 : GoodIn wsX6_paint (va_wsU RX6 73 RX2 "ReelBarn$Reel" ⟨"ReelBarn$Reel", "told", "(I)I"⟩ yX2_told wsX2_told) := goodIn_app (goodIn_of _ (by decide +kernel)) ggX6_paint_X2_told
set_option maxRecDepth 20000 in
theorem ggX6_paint_X5_told : GoodIn wsX6_paint wsX5_told := goodIn_r _ [103, 54, 112] (by decide +kernel) (by decide +kernel)
set_option maxRecDepth 20000 in
theorem gX6_paint_X5_told_u73X5 : GoodIn wsX6_paint (va_wsU RX6 73 RX5 "ReelBarn$Reel" ⟨"ReelBarn$Reel", "told", "(I)I"⟩ yX5_told wsX5_told) := goodIn_app (goodIn_of _ (by decide +kernel)) ggX6_paint_X5_told
theorem dX6_paint_0 : decode cX6_paint 0 = .ok (.aload_n 0, 1) := by decide +kernel
theorem dX6_paint_1 : decode cX6_paint 1 = .ok (.iload_n 1, 1) := by decide +kernel
theorem dX6_paint_2 : decode cX6_paint 2 = .ok (.iload_n 2, 1) := by decide +kernel
theorem dX6_paint_3 : decode cX6_paint 3 = .ok (.iload_n 3, 1) := by decide +kernel
theorem dX6_paint_4 : decode cX6_paint 4 = .ok (.invokevirtual 123, 3) := by decide +kernel
theorem dX6_paint_7 : decode cX6_paint 7 = .ok (.lstore 5, 2) := by decide +kernel
theorem dX6_paint_9 : decode cX6_paint 9 = .ok (.lload 5, 2) := by decide +kernel
theorem dX6_paint_11 : decode cX6_paint 11 = .ok (.lconst 0, 1) := by decide +kernel
theorem dX6_paint_12 : decode cX6_paint 12 = .ok (.lcmp, 1) := by decide +kernel
theorem dX6_paint_13 : decode cX6_paint 13 = .ok (.ifCond .eq 10, 3) := by decide +kernel
theorem dX6_paint_16 : decode cX6_paint 16 = .ok (.aload_n 0, 1) := by decide +kernel
theorem dX6_paint_17 : decode cX6_paint 17 = .ok (.lload 5, 2) := by decide +kernel
theorem dX6_paint_19 : decode cX6_paint 19 = .ok (.invokevirtual 38, 3) := by decide +kernel
theorem dX6_paint_22 : decode cX6_paint 22 = .ok (.lreturn, 1) := by decide +kernel
theorem dX6_paint_23 : decode cX6_paint 23 = .ok (.aload_n 0, 1) := by decide +kernel
theorem dX6_paint_24 : decode cX6_paint 24 = .ok (.getfield 17, 3) := by decide +kernel
theorem dX6_paint_27 : decode cX6_paint 27 = .ok (.iload_n 1, 1) := by decide +kernel
theorem dX6_paint_28 : decode cX6_paint 28 = .ok (.aaload, 1) := by decide +kernel
theorem dX6_paint_29 : decode cX6_paint 29 = .ok (.getfield 120, 3) := by decide +kernel
theorem dX6_paint_32 : decode cX6_paint 32 = .ok (.iload_n 2, 1) := by decide +kernel
theorem dX6_paint_33 : decode cX6_paint 33 = .ok (.aaload, 1) := by decide +kernel
theorem dX6_paint_34 : decode cX6_paint 34 = .ok (.astore 7, 2) := by decide +kernel
theorem dX6_paint_36 : decode cX6_paint 36 = .ok (.aload 7, 2) := by decide +kernel
theorem dX6_paint_38 : decode cX6_paint 38 = .ok (.iload_n 3, 1) := by decide +kernel
theorem dX6_paint_39 : decode cX6_paint 39 = .ok (.iload 4, 2) := by decide +kernel
theorem dX6_paint_41 : decode cX6_paint 41 = .ok (.invokevirtual 77, 3) := by decide +kernel
theorem dX6_paint_44 : decode cX6_paint 44 = .ok (.aload 7, 2) := by decide +kernel
theorem dX6_paint_46 : decode cX6_paint 46 = .ok (.iload_n 3, 1) := by decide +kernel
theorem dX6_paint_47 : decode cX6_paint 47 = .ok (.invokevirtual 73, 3) := by decide +kernel
theorem dX6_paint_50 : decode cX6_paint 50 = .ok (.i2l, 1) := by decide +kernel
theorem dX6_paint_51 : decode cX6_paint 51 = .ok (.lreturn, 1) := by decide +kernel
set_option maxRecDepth 20000 in
theorem ggX6_span_X6_wallFault : GoodIn wsX6_span wsX6_wallFault := goodIn_r _ [7, 8, 1, 9, 10, 11, 6, 12, 50, 51, 52, 53] (by decide +kernel) (by decide +kernel)
set_option maxRecDepth 20000 in
theorem gX6_span_X6_wallFault : GoodIn wsX6_span (wsV RX6 126 RX6 yX6_wallFault wsX6_wallFault) := goodIn_app (goodIn_of _ (by decide +kernel)) ggX6_span_X6_wallFault
set_option maxRecDepth 20000 in
theorem ggX6_span_X6_wallReelFault : GoodIn wsX6_span wsX6_wallReelFault := goodIn_r _ [16, 1, 2, 17, 18, 19, 20, 6, 21, 22, 3, 4, 5, 7, 8, 9, 10, 11, 12, 50, 51, 52, 53, 54] (by decide +kernel) (by decide +kernel)
set_option maxRecDepth 20000 in
theorem gX6_span_X6_wallReelFault : GoodIn wsX6_span (wsV RX6 130 RX6 yX6_wallReelFault wsX6_wallReelFault) := goodIn_app (goodIn_of _ (by decide +kernel)) ggX6_span_X6_wallReelFault
set_option maxRecDepth 20000 in
theorem ggX6_span_X6_refuse : GoodIn wsX6_span wsX6_refuse := goodIn_r _ [26, 27, 50, 51, 52, 53] (by decide +kernel) (by decide +kernel)
set_option maxRecDepth 20000 in
theorem gX6_span_X6_refuse : GoodIn wsX6_span (wsV RX6 38 RX6 yX6_refuse wsX6_refuse) := goodIn_app (goodIn_of _ (by decide +kernel)) ggX6_span_X6_refuse
set_option maxRecDepth 20000 in
theorem ggX6_span_X0_places : GoodIn wsX6_span wsX0_places := goodIn_r _ [33, 34, 55] (by decide +kernel) (by decide +kernel)
set_option maxRecDepth 20000 in
theorem gX6_span_X0_places_u61X0 : GoodIn wsX6_span (va_wsU RX6 61 RX0 "ReelBarn$Reel" ⟨"ReelBarn$Reel", "places", "()I"⟩ yX0_places wsX0_places) := goodIn_app (goodIn_of _ (by decide +kernel)) ggX6_span_X0_places
set_option maxRecDepth 20000 in
theorem ggX6_span_X1_places : GoodIn wsX6_span wsX1_places := goodIn_r _ [38, 39, 56] (by decide +kernel) (by decide +kernel)
set_option maxRecDepth 20000 in
theorem gX6_span_X1_places_u61X1 : GoodIn wsX6_span (va_wsU RX6 61 RX1 "ReelBarn$Reel" ⟨"ReelBarn$Reel", "places", "()I"⟩ yX1_places wsX1_places) := goodIn_app (goodIn_of _ (by decide +kernel)) ggX6_span_X1_places
set_option maxRecDepth 20000 in
theorem ggX6_span_X2_places : GoodIn wsX6_span wsX2_places := goodIn_r _ [43, 44, 57] (by decide +kernel) (by decide +kernel)
set_option maxRecDepth 20000 in
theorem gX6_span_X2_places_u61X2 : GoodIn wsX6_span (va_wsU RX6 61 RX2 "ReelBarn$Reel" ⟨"ReelBarn$Reel", "places", "()I"⟩ yX2_places wsX2_places) := goodIn_app (goodIn_of _ (by decide +kernel)) ggX6_span_X2_places
set_option maxRecDepth 20000 in
theorem ggX6_span_X5_places : GoodIn wsX6_span wsX5_places := goodIn_r _ [48, 49, 58] (by decide +kernel) (by decide +kernel)
set_option maxRecDepth 20000 in
theorem gX6_span_X5_places_u61X5 : GoodIn wsX6_span (va_wsU RX6 61 RX5 "ReelBarn$Reel" ⟨"ReelBarn$Reel", "places", "()I"⟩ yX5_places wsX5_places) := goodIn_app (goodIn_of _ (by decide +kernel)) ggX6_span_X5_places
theorem dX6_span_0 : decode cX6_span 0 = .ok (.iload_n 2, 1) := by decide +kernel
theorem dX6_span_1 : decode cX6_span 1 = .ok (.iconst (-1), 1) := by decide +kernel
theorem dX6_span_2 : decode cX6_span 2 = .ok (.if_icmp .ne 11, 3) := by decide +kernel
theorem dX6_span_5 : decode cX6_span 5 = .ok (.aload_n 0, 1) := by decide +kernel
theorem dX6_span_6 : decode cX6_span 6 = .ok (.iload_n 1, 1) := by decide +kernel
theorem dX6_span_7 : decode cX6_span 7 = .ok (.invokevirtual 126, 3) := by decide +kernel
theorem dX6_span_10 : decode cX6_span 10 = .ok (.goto 9, 3) := by decide +kernel
theorem dX6_span_13 : decode cX6_span 13 = .ok (.aload_n 0, 1) := by decide +kernel
theorem dX6_span_14 : decode cX6_span 14 = .ok (.iload_n 1, 1) := by decide +kernel
theorem dX6_span_15 : decode cX6_span 15 = .ok (.iload_n 2, 1) := by decide +kernel
theorem dX6_span_16 : decode cX6_span 16 = .ok (.invokevirtual 130, 3) := by decide +kernel
theorem dX6_span_19 : decode cX6_span 19 = .ok (.lstore_n 3, 1) := by decide +kernel
theorem dX6_span_20 : decode cX6_span 20 = .ok (.lload_n 3, 1) := by decide +kernel
theorem dX6_span_21 : decode cX6_span 21 = .ok (.lconst 0, 1) := by decide +kernel
theorem dX6_span_22 : decode cX6_span 22 = .ok (.lcmp, 1) := by decide +kernel
theorem dX6_span_23 : decode cX6_span 23 = .ok (.ifCond .eq 9, 3) := by decide +kernel
theorem dX6_span_26 : decode cX6_span 26 = .ok (.aload_n 0, 1) := by decide +kernel
theorem dX6_span_27 : decode cX6_span 27 = .ok (.lload_n 3, 1) := by decide +kernel
theorem dX6_span_28 : decode cX6_span 28 = .ok (.invokevirtual 38, 3) := by decide +kernel
theorem dX6_span_31 : decode cX6_span 31 = .ok (.lreturn, 1) := by decide +kernel
theorem dX6_span_32 : decode cX6_span 32 = .ok (.aload_n 0, 1) := by decide +kernel
theorem dX6_span_33 : decode cX6_span 33 = .ok (.getfield 17, 3) := by decide +kernel
theorem dX6_span_36 : decode cX6_span 36 = .ok (.iload_n 1, 1) := by decide +kernel
theorem dX6_span_37 : decode cX6_span 37 = .ok (.aaload, 1) := by decide +kernel
theorem dX6_span_38 : decode cX6_span 38 = .ok (.astore 5, 2) := by decide +kernel
theorem dX6_span_40 : decode cX6_span 40 = .ok (.iload_n 2, 1) := by decide +kernel
theorem dX6_span_41 : decode cX6_span 41 = .ok (.iconst (-1), 1) := by decide +kernel
theorem dX6_span_42 : decode cX6_span 42 = .ok (.if_icmp .ne 13, 3) := by decide +kernel
theorem dX6_span_45 : decode cX6_span 45 = .ok (.aload 5, 2) := by decide +kernel
theorem dX6_span_47 : decode cX6_span 47 = .ok (.getfield 120, 3) := by decide +kernel
theorem dX6_span_50 : decode cX6_span 50 = .ok (.arraylength, 1) := by decide +kernel
theorem dX6_span_51 : decode cX6_span 51 = .ok (.i2l, 1) := by decide +kernel
theorem dX6_span_52 : decode cX6_span 52 = .ok (.goto 14, 3) := by decide +kernel
theorem dX6_span_55 : decode cX6_span 55 = .ok (.aload 5, 2) := by decide +kernel
theorem dX6_span_57 : decode cX6_span 57 = .ok (.getfield 120, 3) := by decide +kernel
theorem dX6_span_60 : decode cX6_span 60 = .ok (.iload_n 2, 1) := by decide +kernel
theorem dX6_span_61 : decode cX6_span 61 = .ok (.aaload, 1) := by decide +kernel
theorem dX6_span_62 : decode cX6_span 62 = .ok (.invokevirtual 61, 3) := by decide +kernel
theorem dX6_span_65 : decode cX6_span 65 = .ok (.i2l, 1) := by decide +kernel
theorem dX6_span_66 : decode cX6_span 66 = .ok (.lreturn, 1) := by decide +kernel
set_option maxRecDepth 20000 in
theorem ggX6_chart_X6_gridFault : GoodIn wsX6_chart wsX6_gridFault := goodIn_r _ [7, 8, 9] (by decide +kernel) (by decide +kernel)
set_option maxRecDepth 20000 in
theorem gX6_chart_X6_gridFault : GoodIn wsX6_chart (va_wsS RX6 110 yX6_gridFault wsX6_gridFault) := goodIn_app (goodIn_of _ (by decide +kernel)) ggX6_chart_X6_gridFault
set_option maxRecDepth 20000 in
theorem ggX6_chart_X6_refuse : GoodIn wsX6_chart wsX6_refuse := goodIn_r _ [13, 14, 15, 16, 17, 18] (by decide +kernel) (by decide +kernel)
set_option maxRecDepth 20000 in
theorem gX6_chart_X6_refuse : GoodIn wsX6_chart (wsV RX6 38 RX6 yX6_refuse wsX6_refuse) := goodIn_app (goodIn_of _ (by decide +kernel)) ggX6_chart_X6_refuse
theorem dX6_chart_0 : decode cX6_chart 0 = .ok (.iload_n 1, 1) := by decide +kernel
theorem dX6_chart_1 : decode cX6_chart 1 = .ok (.iload_n 2, 1) := by decide +kernel
theorem dX6_chart_2 : decode cX6_chart 2 = .ok (.invokestatic 110, 3) := by decide +kernel
theorem dX6_chart_5 : decode cX6_chart 5 = .ok (.lstore_n 3, 1) := by decide +kernel
theorem dX6_chart_6 : decode cX6_chart 6 = .ok (.lload_n 3, 1) := by decide +kernel
theorem dX6_chart_7 : decode cX6_chart 7 = .ok (.lconst 0, 1) := by decide +kernel
theorem dX6_chart_8 : decode cX6_chart 8 = .ok (.lcmp, 1) := by decide +kernel
theorem dX6_chart_9 : decode cX6_chart 9 = .ok (.ifCond .eq 9, 3) := by decide +kernel
theorem dX6_chart_12 : decode cX6_chart 12 = .ok (.aload_n 0, 1) := by decide +kernel
theorem dX6_chart_13 : decode cX6_chart 13 = .ok (.lload_n 3, 1) := by decide +kernel
theorem dX6_chart_14 : decode cX6_chart 14 = .ok (.invokevirtual 38, 3) := by decide +kernel
theorem dX6_chart_17 : decode cX6_chart 17 = .ok (.lreturn, 1) := by decide +kernel
theorem dX6_chart_18 : decode cX6_chart 18 = .ok (.aload_n 0, 1) := by decide +kernel
theorem dX6_chart_19 : decode cX6_chart 19 = .ok (.iload_n 1, 1) := by decide +kernel
theorem dX6_chart_20 : decode cX6_chart 20 = .ok (.iload_n 2, 1) := by decide +kernel
theorem dX6_chart_21 : decode cX6_chart 21 = .ok (.multianewarray 133 2, 4) := by decide +kernel
theorem dX6_chart_25 : decode cX6_chart 25 = .ok (.putfield 25, 3) := by decide +kernel
theorem dX6_chart_28 : decode cX6_chart 28 = .ok (.iload_n 1, 1) := by decide +kernel
theorem dX6_chart_29 : decode cX6_chart 29 = .ok (.i2l, 1) := by decide +kernel
theorem dX6_chart_30 : decode cX6_chart 30 = .ok (.lreturn, 1) := by decide +kernel
set_option maxRecDepth 20000 in
theorem ggX6_note_X6_refuse : GoodIn wsX6_note wsX6_refuse := goodIn_r _ [8, 9, 10, 11, 12, 13] (by decide +kernel) (by decide +kernel)
set_option maxRecDepth 20000 in
theorem gX6_note_X6_refuse : GoodIn wsX6_note (wsV RX6 38 RX6 yX6_refuse wsX6_refuse) := goodIn_app (goodIn_of _ (by decide +kernel)) ggX6_note_X6_refuse
theorem dX6_note_0 : decode cX6_note 0 = .ok (.aload_n 0, 1) := by decide +kernel
theorem dX6_note_1 : decode cX6_note 1 = .ok (.getfield 25, 3) := by decide +kernel
theorem dX6_note_4 : decode cX6_note 4 = .ok (.ifnonnull 11, 3) := by decide +kernel
theorem dX6_note_7 : decode cX6_note 7 = .ok (.aload_n 0, 1) := by decide +kernel
theorem dX6_note_8 : decode cX6_note 8 = .ok (.ldc2_w 134, 3) := by decide +kernel
theorem dX6_note_11 : decode cX6_note 11 = .ok (.invokevirtual 38, 3) := by decide +kernel
theorem dX6_note_14 : decode cX6_note 14 = .ok (.lreturn, 1) := by decide +kernel
theorem dX6_note_15 : decode cX6_note 15 = .ok (.iload_n 1, 1) := by decide +kernel
theorem dX6_note_16 : decode cX6_note 16 = .ok (.ifCond .lt 12, 3) := by decide +kernel
theorem dX6_note_19 : decode cX6_note 19 = .ok (.iload_n 1, 1) := by decide +kernel
theorem dX6_note_20 : decode cX6_note 20 = .ok (.aload_n 0, 1) := by decide +kernel
theorem dX6_note_21 : decode cX6_note 21 = .ok (.getfield 25, 3) := by decide +kernel
theorem dX6_note_24 : decode cX6_note 24 = .ok (.arraylength, 1) := by decide +kernel
theorem dX6_note_25 : decode cX6_note 25 = .ok (.if_icmp .lt 11, 3) := by decide +kernel
theorem dX6_note_28 : decode cX6_note 28 = .ok (.aload_n 0, 1) := by decide +kernel
theorem dX6_note_29 : decode cX6_note 29 = .ok (.ldc2_w 136, 3) := by decide +kernel
theorem dX6_note_32 : decode cX6_note 32 = .ok (.invokevirtual 38, 3) := by decide +kernel
theorem dX6_note_35 : decode cX6_note 35 = .ok (.lreturn, 1) := by decide +kernel
theorem dX6_note_36 : decode cX6_note 36 = .ok (.aload_n 0, 1) := by decide +kernel
theorem dX6_note_37 : decode cX6_note 37 = .ok (.getfield 25, 3) := by decide +kernel
theorem dX6_note_40 : decode cX6_note 40 = .ok (.iload_n 1, 1) := by decide +kernel
theorem dX6_note_41 : decode cX6_note 41 = .ok (.aaload, 1) := by decide +kernel
theorem dX6_note_42 : decode cX6_note 42 = .ok (.astore 4, 2) := by decide +kernel
theorem dX6_note_44 : decode cX6_note 44 = .ok (.iload_n 2, 1) := by decide +kernel
theorem dX6_note_45 : decode cX6_note 45 = .ok (.ifCond .lt 10, 3) := by decide +kernel
theorem dX6_note_48 : decode cX6_note 48 = .ok (.iload_n 2, 1) := by decide +kernel
theorem dX6_note_49 : decode cX6_note 49 = .ok (.aload 4, 2) := by decide +kernel
theorem dX6_note_51 : decode cX6_note 51 = .ok (.arraylength, 1) := by decide +kernel
theorem dX6_note_52 : decode cX6_note 52 = .ok (.if_icmp .lt 11, 3) := by decide +kernel
theorem dX6_note_55 : decode cX6_note 55 = .ok (.aload_n 0, 1) := by decide +kernel
theorem dX6_note_56 : decode cX6_note 56 = .ok (.ldc2_w 136, 3) := by decide +kernel
theorem dX6_note_59 : decode cX6_note 59 = .ok (.invokevirtual 38, 3) := by decide +kernel
theorem dX6_note_62 : decode cX6_note 62 = .ok (.lreturn, 1) := by decide +kernel
theorem dX6_note_63 : decode cX6_note 63 = .ok (.aload 4, 2) := by decide +kernel
theorem dX6_note_65 : decode cX6_note 65 = .ok (.iload_n 2, 1) := by decide +kernel
theorem dX6_note_66 : decode cX6_note 66 = .ok (.dup2, 1) := by decide +kernel
theorem dX6_note_67 : decode cX6_note 67 = .ok (.iaload, 1) := by decide +kernel
theorem dX6_note_68 : decode cX6_note 68 = .ok (.iload_n 3, 1) := by decide +kernel
theorem dX6_note_69 : decode cX6_note 69 = .ok (.iadd, 1) := by decide +kernel
theorem dX6_note_70 : decode cX6_note 70 = .ok (.iastore, 1) := by decide +kernel
theorem dX6_note_71 : decode cX6_note 71 = .ok (.aload 4, 2) := by decide +kernel
theorem dX6_note_73 : decode cX6_note 73 = .ok (.iload_n 2, 1) := by decide +kernel
theorem dX6_note_74 : decode cX6_note 74 = .ok (.iaload, 1) := by decide +kernel
theorem dX6_note_75 : decode cX6_note 75 = .ok (.i2l, 1) := by decide +kernel
theorem dX6_note_76 : decode cX6_note 76 = .ok (.lreturn, 1) := by decide +kernel
theorem dX6_tally_0 : decode cX6_tally 0 = .ok (.iload_n 1, 1) := by decide +kernel
theorem dX6_tally_1 : decode cX6_tally 1 = .ok (.iconst 1, 1) := by decide +kernel
theorem dX6_tally_2 : decode cX6_tally 2 = .ok (.if_icmp .lt 18, 3) := by decide +kernel
theorem dX6_tally_5 : decode cX6_tally 5 = .ok (.iload_n 1, 1) := by decide +kernel
theorem dX6_tally_6 : decode cX6_tally 6 = .ok (.bipush 7, 2) := by decide +kernel
theorem dX6_tally_8 : decode cX6_tally 8 = .ok (.if_icmp .gt 12, 3) := by decide +kernel
theorem dX6_tally_11 : decode cX6_tally 11 = .ok (.aload_n 0, 1) := by decide +kernel
theorem dX6_tally_12 : decode cX6_tally 12 = .ok (.getfield 21, 3) := by decide +kernel
theorem dX6_tally_15 : decode cX6_tally 15 = .ok (.iload_n 1, 1) := by decide +kernel
theorem dX6_tally_16 : decode cX6_tally 16 = .ok (.iaload, 1) := by decide +kernel
theorem dX6_tally_17 : decode cX6_tally 17 = .ok (.goto 4, 3) := by decide +kernel
theorem dX6_tally_20 : decode cX6_tally 20 = .ok (.iconst 0, 1) := by decide +kernel
theorem dX6_tally_21 : decode cX6_tally 21 = .ok (.ireturn, 1) := by decide +kernel
theorem dX6_refuse_0 : decode cX6_refuse 0 = .ok (.aload_n 0, 1) := by decide +kernel
theorem dX6_refuse_1 : decode cX6_refuse 1 = .ok (.getfield 21, 3) := by decide +kernel
theorem dX6_refuse_4 : decode cX6_refuse 4 = .ok (.lload_n 1, 1) := by decide +kernel
theorem dX6_refuse_5 : decode cX6_refuse 5 = .ok (.bipush 40, 2) := by decide +kernel
theorem dX6_refuse_7 : decode cX6_refuse 7 = .ok (.lshr, 1) := by decide +kernel
theorem dX6_refuse_8 : decode cX6_refuse 8 = .ok (.l2i, 1) := by decide +kernel
theorem dX6_refuse_9 : decode cX6_refuse 9 = .ok (.dup2, 1) := by decide +kernel
theorem dX6_refuse_10 : decode cX6_refuse 10 = .ok (.iaload, 1) := by decide +kernel
theorem dX6_refuse_11 : decode cX6_refuse 11 = .ok (.iconst 1, 1) := by decide +kernel
theorem dX6_refuse_12 : decode cX6_refuse 12 = .ok (.iadd, 1) := by decide +kernel
theorem dX6_refuse_13 : decode cX6_refuse 13 = .ok (.iastore, 1) := by decide +kernel
theorem dX6_refuse_14 : decode cX6_refuse 14 = .ok (.lload_n 1, 1) := by decide +kernel
theorem dX6_refuse_15 : decode cX6_refuse 15 = .ok (.lreturn, 1) := by decide +kernel
theorem dX6_isDeck_0 : decode cX6_isDeck 0 = .ok (.iload_n 0, 1) := by decide +kernel
theorem dX6_isDeck_1 : decode cX6_isDeck 1 = .ok (.ifCond .lt 12, 3) := by decide +kernel
theorem dX6_isDeck_4 : decode cX6_isDeck 4 = .ok (.iload_n 0, 1) := by decide +kernel
theorem dX6_isDeck_5 : decode cX6_isDeck 5 = .ok (.iconst 4, 1) := by decide +kernel
theorem dX6_isDeck_6 : decode cX6_isDeck 6 = .ok (.if_icmp .ge 7, 3) := by decide +kernel
theorem dX6_isDeck_9 : decode cX6_isDeck 9 = .ok (.iconst 1, 1) := by decide +kernel
theorem dX6_isDeck_10 : decode cX6_isDeck 10 = .ok (.goto 4, 3) := by decide +kernel
theorem dX6_isDeck_13 : decode cX6_isDeck 13 = .ok (.iconst 0, 1) := by decide +kernel
theorem dX6_isDeck_14 : decode cX6_isDeck 14 = .ok (.ireturn, 1) := by decide +kernel
theorem dX6_isSort_0 : decode cX6_isSort 0 = .ok (.iload_n 0, 1) := by decide +kernel
theorem dX6_isSort_1 : decode cX6_isSort 1 = .ok (.ifCond .lt 12, 3) := by decide +kernel
theorem dX6_isSort_4 : decode cX6_isSort 4 = .ok (.iload_n 0, 1) := by decide +kernel
theorem dX6_isSort_5 : decode cX6_isSort 5 = .ok (.iconst 4, 1) := by decide +kernel
theorem dX6_isSort_6 : decode cX6_isSort 6 = .ok (.if_icmp .ge 7, 3) := by decide +kernel
theorem dX6_isSort_9 : decode cX6_isSort 9 = .ok (.iconst 1, 1) := by decide +kernel
theorem dX6_isSort_10 : decode cX6_isSort 10 = .ok (.goto 4, 3) := by decide +kernel
theorem dX6_isSort_13 : decode cX6_isSort 13 = .ok (.iconst 0, 1) := by decide +kernel
theorem dX6_isSort_14 : decode cX6_isSort 14 = .ok (.ireturn, 1) := by decide +kernel
theorem dX6_knowsHow_0 : decode cX6_knowsHow 0 = .ok (.iload_n 0, 1) := by decide +kernel
theorem dX6_knowsHow_1 : decode cX6_knowsHow 1 = .ok (.iconst 2, 1) := by decide +kernel
theorem dX6_knowsHow_2 : decode cX6_knowsHow 2 = .ok (.if_icmp .ne 18, 3) := by decide +kernel
theorem dX6_knowsHow_5 : decode cX6_knowsHow 5 = .ok (.iload_n 1, 1) := by decide +kernel
theorem dX6_knowsHow_6 : decode cX6_knowsHow 6 = .ok (.ifCond .eq 8, 3) := by decide +kernel
theorem dX6_knowsHow_9 : decode cX6_knowsHow 9 = .ok (.iload_n 1, 1) := by decide +kernel
theorem dX6_knowsHow_10 : decode cX6_knowsHow 10 = .ok (.iconst 1, 1) := by decide +kernel
theorem dX6_knowsHow_11 : decode cX6_knowsHow 11 = .ok (.if_icmp .ne 7, 3) := by decide +kernel
theorem dX6_knowsHow_14 : decode cX6_knowsHow 14 = .ok (.iconst 1, 1) := by decide +kernel
theorem dX6_knowsHow_15 : decode cX6_knowsHow 15 = .ok (.goto 4, 3) := by decide +kernel
theorem dX6_knowsHow_18 : decode cX6_knowsHow 18 = .ok (.iconst 0, 1) := by decide +kernel
theorem dX6_knowsHow_19 : decode cX6_knowsHow 19 = .ok (.ireturn, 1) := by decide +kernel
theorem dX6_knowsHow_20 : decode cX6_knowsHow 20 = .ok (.iload_n 0, 1) := by decide +kernel
theorem dX6_knowsHow_21 : decode cX6_knowsHow 21 = .ok (.iconst 3, 1) := by decide +kernel
theorem dX6_knowsHow_22 : decode cX6_knowsHow 22 = .ok (.if_icmp .ne 27, 3) := by decide +kernel
theorem dX6_knowsHow_25 : decode cX6_knowsHow 25 = .ok (.iload_n 1, 1) := by decide +kernel
theorem dX6_knowsHow_26 : decode cX6_knowsHow 26 = .ok (.bipush 6, 2) := by decide +kernel
theorem dX6_knowsHow_28 : decode cX6_knowsHow 28 = .ok (.if_icmp .eq 15, 3) := by decide +kernel
theorem dX6_knowsHow_31 : decode cX6_knowsHow 31 = .ok (.iload_n 1, 1) := by decide +kernel
theorem dX6_knowsHow_32 : decode cX6_knowsHow 32 = .ok (.bipush 7, 2) := by decide +kernel
theorem dX6_knowsHow_34 : decode cX6_knowsHow 34 = .ok (.if_icmp .eq 9, 3) := by decide +kernel
theorem dX6_knowsHow_37 : decode cX6_knowsHow 37 = .ok (.iload_n 1, 1) := by decide +kernel
theorem dX6_knowsHow_38 : decode cX6_knowsHow 38 = .ok (.bipush 8, 2) := by decide +kernel
theorem dX6_knowsHow_40 : decode cX6_knowsHow 40 = .ok (.if_icmp .ne 7, 3) := by decide +kernel
theorem dX6_knowsHow_43 : decode cX6_knowsHow 43 = .ok (.iconst 1, 1) := by decide +kernel
theorem dX6_knowsHow_44 : decode cX6_knowsHow 44 = .ok (.goto 4, 3) := by decide +kernel
theorem dX6_knowsHow_47 : decode cX6_knowsHow 47 = .ok (.iconst 0, 1) := by decide +kernel
theorem dX6_knowsHow_48 : decode cX6_knowsHow 48 = .ok (.ireturn, 1) := by decide +kernel
theorem dX6_knowsHow_49 : decode cX6_knowsHow 49 = .ok (.iload_n 1, 1) := by decide +kernel
theorem dX6_knowsHow_50 : decode cX6_knowsHow 50 = .ok (.ifCond .lt 13, 3) := by decide +kernel
theorem dX6_knowsHow_53 : decode cX6_knowsHow 53 = .ok (.iload_n 1, 1) := by decide +kernel
theorem dX6_knowsHow_54 : decode cX6_knowsHow 54 = .ok (.bipush 8, 2) := by decide +kernel
theorem dX6_knowsHow_56 : decode cX6_knowsHow 56 = .ok (.if_icmp .gt 7, 3) := by decide +kernel
theorem dX6_knowsHow_59 : decode cX6_knowsHow 59 = .ok (.iconst 1, 1) := by decide +kernel
theorem dX6_knowsHow_60 : decode cX6_knowsHow 60 = .ok (.goto 4, 3) := by decide +kernel
theorem dX6_knowsHow_63 : decode cX6_knowsHow 63 = .ok (.iconst 0, 1) := by decide +kernel
theorem dX6_knowsHow_64 : decode cX6_knowsHow 64 = .ok (.ireturn, 1) := by decide +kernel
theorem dX6_goTogether_0 : decode cX6_goTogether 0 = .ok (.iload_n 0, 1) := by decide +kernel
theorem dX6_goTogether_1 : decode cX6_goTogether 1 = .ok (.iconst 3, 1) := by decide +kernel
theorem dX6_goTogether_2 : decode cX6_goTogether 2 = .ok (.if_icmp .ne 7, 3) := by decide +kernel
theorem dX6_goTogether_5 : decode cX6_goTogether 5 = .ok (.iconst 1, 1) := by decide +kernel
theorem dX6_goTogether_6 : decode cX6_goTogether 6 = .ok (.goto 4, 3) := by decide +kernel
theorem dX6_goTogether_9 : decode cX6_goTogether 9 = .ok (.iconst 0, 1) := by decide +kernel
theorem dX6_goTogether_10 : decode cX6_goTogether 10 = .ok (.iload_n 1, 1) := by decide +kernel
theorem dX6_goTogether_11 : decode cX6_goTogether 11 = .ok (.iconst 3, 1) := by decide +kernel
theorem dX6_goTogether_12 : decode cX6_goTogether 12 = .ok (.if_icmp .ne 7, 3) := by decide +kernel
theorem dX6_goTogether_15 : decode cX6_goTogether 15 = .ok (.iconst 1, 1) := by decide +kernel
theorem dX6_goTogether_16 : decode cX6_goTogether 16 = .ok (.goto 4, 3) := by decide +kernel
theorem dX6_goTogether_19 : decode cX6_goTogether 19 = .ok (.iconst 0, 1) := by decide +kernel
theorem dX6_goTogether_20 : decode cX6_goTogether 20 = .ok (.if_icmp .ne 7, 3) := by decide +kernel
theorem dX6_goTogether_23 : decode cX6_goTogether 23 = .ok (.iconst 1, 1) := by decide +kernel
theorem dX6_goTogether_24 : decode cX6_goTogether 24 = .ok (.goto 4, 3) := by decide +kernel
theorem dX6_goTogether_27 : decode cX6_goTogether 27 = .ok (.iconst 0, 1) := by decide +kernel
theorem dX6_goTogether_28 : decode cX6_goTogether 28 = .ok (.ireturn, 1) := by decide +kernel
theorem dX6_howToBlend_0 : decode cX6_howToBlend 0 = .ok (.iload_n 0, 1) := by decide +kernel
theorem dX6_howToBlend_1 : decode cX6_howToBlend 1 = .ok (.iconst 3, 1) := by decide +kernel
theorem dX6_howToBlend_2 : decode cX6_howToBlend 2 = .ok (.if_icmp .ne 6, 3) := by decide +kernel
theorem dX6_howToBlend_5 : decode cX6_howToBlend 5 = .ok (.bipush 6, 2) := by decide +kernel
theorem dX6_howToBlend_7 : decode cX6_howToBlend 7 = .ok (.ireturn, 1) := by decide +kernel
theorem dX6_howToBlend_8 : decode cX6_howToBlend 8 = .ok (.iload_n 1, 1) := by decide +kernel
theorem dX6_howToBlend_9 : decode cX6_howToBlend 9 = .ok (.ifCond .eq 7, 3) := by decide +kernel
theorem dX6_howToBlend_12 : decode cX6_howToBlend 12 = .ok (.iconst 1, 1) := by decide +kernel
theorem dX6_howToBlend_13 : decode cX6_howToBlend 13 = .ok (.goto 4, 3) := by decide +kernel
theorem dX6_howToBlend_16 : decode cX6_howToBlend 16 = .ok (.iconst 0, 1) := by decide +kernel
theorem dX6_howToBlend_17 : decode cX6_howToBlend 17 = .ok (.ireturn, 1) := by decide +kernel
set_option maxRecDepth 20000 in
theorem ggX6_blendFloats_X0_level : GoodIn wsX6_blendFloats wsX0_level := goodIn_r _ [7, 8, 71] (by decide +kernel) (by decide +kernel)
set_option maxRecDepth 20000 in
theorem gX6_blendFloats_X0_level_u98X0 : GoodIn wsX6_blendFloats (va_wsO RX6 98 RX0 "ReelBarn$Reel" ⟨"ReelBarn$Reel", "level", "(I)F"⟩ yX0_level wsX0_level) := goodIn_app (goodIn_of _ (by decide +kernel)) ggX6_blendFloats_X0_level
set_option maxRecDepth 20000 in
theorem ggX6_blendFloats_X3_level : GoodIn wsX6_blendFloats wsX3_level := goodIn_r _ [9, 13, 14, 15, 16, 6, 17, 8, 18, 19, 20, 21, 22, 23, 24, 25, 26, 27, 28, 29, 30, 31, 32, 33, 71, 72, 73, 74] (by decide +kernel) (by decide +kernel)
set_option maxRecDepth 20000 in
theorem gX6_blendFloats_X3_level_u98X1 : GoodIn wsX6_blendFloats (va_wsU RX6 98 RX1 "ReelBarn$Reel" ⟨"ReelBarn$Reel", "level", "(I)F"⟩ yX3_level wsX3_level) := goodIn_app (goodIn_of _ (by decide +kernel)) ggX6_blendFloats_X3_level
set_option maxRecDepth 20000 in
theorem gX6_blendFloats_X3_level_u98X2 : GoodIn wsX6_blendFloats (va_wsU RX6 98 RX2 "ReelBarn$Reel" ⟨"ReelBarn$Reel", "level", "(I)F"⟩ yX3_level wsX3_level) := goodIn_app (goodIn_of _ (by decide +kernel)) ggX6_blendFloats_X3_level
set_option maxRecDepth 20000 in
theorem gX6_blendFloats_X3_level_u98X5 : GoodIn wsX6_blendFloats (va_wsU RX6 98 RX5 "ReelBarn$Reel" ⟨"ReelBarn$Reel", "level", "(I)F"⟩ yX3_level wsX3_level) := goodIn_app (goodIn_of _ (by decide +kernel)) ggX6_blendFloats_X3_level
set_option maxRecDepth 20000 in
theorem ggX6_blendFloats_X0_putLevel : GoodIn wsX6_blendFloats wsX0_putLevel := goodIn_r _ [41, 8, 42, 43, 6, 44, 45, 46, 71] (by decide +kernel) (by decide +kernel)
set_option maxRecDepth 20000 in
theorem gX6_blendFloats_X0_putLevel_u138X0 : GoodIn wsX6_blendFloats (va_wsO RX6 138 RX0 "ReelBarn$Reel" ⟨"ReelBarn$Reel", "putLevel", "(IF)V"⟩ yX0_putLevel wsX0_putLevel) := goodIn_app (goodIn_of _ (by decide +kernel)) ggX6_blendFloats_X0_putLevel
set_option maxRecDepth 20000 in
theorem ggX6_blendFloats_X3_putLevel : GoodIn wsX6_blendFloats wsX3_putLevel := goodIn_r _ [47, 50, 51, 52, 53, 6, 54, 55, 56, 57, 18, 58, 40, 59, 41, 8, 42, 43, 44, 45, 46, 60, 61, 21, 62, 23, 63, 64, 26, 65, 28, 66, 67, 31, 68, 33, 71, 72, 73, 74] (by decide +kernel) (by decide +kernel)
set_option maxRecDepth 20000 in
theorem gX6_blendFloats_X3_putLevel_u138X1 : GoodIn wsX6_blendFloats (va_wsU RX6 138 RX1 "ReelBarn$Reel" ⟨"ReelBarn$Reel", "putLevel", "(IF)V"⟩ yX3_putLevel wsX3_putLevel) := goodIn_app (goodIn_of _ (by decide +kernel)) ggX6_blendFloats_X3_putLevel
set_option maxRecDepth 20000 in
theorem gX6_blendFloats_X3_putLevel_u138X2 : GoodIn wsX6_blendFloats (va_wsU RX6 138 RX2 "ReelBarn$Reel" ⟨"ReelBarn$Reel", "putLevel", "(IF)V"⟩ yX3_putLevel wsX3_putLevel) := goodIn_app (goodIn_of _ (by decide +kernel)) ggX6_blendFloats_X3_putLevel
set_option maxRecDepth 20000 in
theorem gX6_blendFloats_X3_putLevel_u138X5 : GoodIn wsX6_blendFloats (va_wsU RX6 138 RX5 "ReelBarn$Reel" ⟨"ReelBarn$Reel", "putLevel", "(IF)V"⟩ yX3_putLevel wsX3_putLevel) := goodIn_app (goodIn_of _ (by decide +kernel)) ggX6_blendFloats_X3_putLevel
theorem dX6_blendFloats_0 : decode cX6_blendFloats 0 = .ok (.aload_n 0, 1) := by decide +kernel
theorem dX6_blendFloats_1 : decode cX6_blendFloats 1 = .ok (.iload_n 1, 1) := by decide +kernel
theorem dX6_blendFloats_2 : decode cX6_blendFloats 2 = .ok (.invokevirtual 98, 3) := by decide +kernel
theorem dX6_blendFloats_5 : decode cX6_blendFloats 5 = .ok (.fstore 4, 2) := by decide +kernel
theorem dX6_blendFloats_7 : decode cX6_blendFloats 7 = .ok (.aload_n 0, 1) := by decide +kernel
theorem dX6_blendFloats_8 : decode cX6_blendFloats 8 = .ok (.iload_n 1, 1) := by decide +kernel
theorem dX6_blendFloats_9 : decode cX6_blendFloats 9 = .ok (.iload_n 3, 1) := by decide +kernel
theorem dX6_blendFloats_10 : decode cX6_blendFloats 10 = .ok (.ifCond .eq 10, 3) := by decide +kernel
theorem dX6_blendFloats_13 : decode cX6_blendFloats 13 = .ok (.fload 4, 2) := by decide +kernel
theorem dX6_blendFloats_15 : decode cX6_blendFloats 15 = .ok (.fload_n 2, 1) := by decide +kernel
theorem dX6_blendFloats_16 : decode cX6_blendFloats 16 = .ok (.fsub, 1) := by decide +kernel
theorem dX6_blendFloats_17 : decode cX6_blendFloats 17 = .ok (.goto 7, 3) := by decide +kernel
theorem dX6_blendFloats_20 : decode cX6_blendFloats 20 = .ok (.fload 4, 2) := by decide +kernel
theorem dX6_blendFloats_22 : decode cX6_blendFloats 22 = .ok (.fload_n 2, 1) := by decide +kernel
theorem dX6_blendFloats_23 : decode cX6_blendFloats 23 = .ok (.fadd, 1) := by decide +kernel
theorem dX6_blendFloats_24 : decode cX6_blendFloats 24 = .ok (.invokevirtual 138, 3) := by decide +kernel
theorem dX6_blendFloats_27 : decode cX6_blendFloats 27 = .ok (.return_, 1) := by decide +kernel
theorem dX6_reelOn_0 : decode cX6_reelOn 0 = .ok (.aload_n 0, 1) := by decide +kernel
theorem dX6_reelOn_1 : decode cX6_reelOn 1 = .ok (.getfield 11, 3) := by decide +kernel
theorem dX6_reelOn_4 : decode cX6_reelOn 4 = .ok (.iload_n 1, 1) := by decide +kernel
theorem dX6_reelOn_5 : decode cX6_reelOn 5 = .ok (.iconst 4, 1) := by decide +kernel
theorem dX6_reelOn_6 : decode cX6_reelOn 6 = .ok (.imul, 1) := by decide +kernel
theorem dX6_reelOn_7 : decode cX6_reelOn 7 = .ok (.iload_n 2, 1) := by decide +kernel
theorem dX6_reelOn_8 : decode cX6_reelOn 8 = .ok (.iadd, 1) := by decide +kernel
theorem dX6_reelOn_9 : decode cX6_reelOn 9 = .ok (.aaload, 1) := by decide +kernel
theorem dX6_reelOn_10 : decode cX6_reelOn 10 = .ok (.areturn, 1) := by decide +kernel
theorem dX6_carry_0 : decode cX6_carry 0 = .ok (.aload_n 0, 1) := by decide +kernel
theorem dX6_carry_1 : decode cX6_carry 1 = .ok (.getfield 11, 3) := by decide +kernel
theorem dX6_carry_4 : decode cX6_carry 4 = .ok (.iload_n 1, 1) := by decide +kernel
theorem dX6_carry_5 : decode cX6_carry 5 = .ok (.iconst 4, 1) := by decide +kernel
theorem dX6_carry_6 : decode cX6_carry 6 = .ok (.imul, 1) := by decide +kernel
theorem dX6_carry_7 : decode cX6_carry 7 = .ok (.iload_n 2, 1) := by decide +kernel
theorem dX6_carry_8 : decode cX6_carry 8 = .ok (.iadd, 1) := by decide +kernel
theorem dX6_carry_9 : decode cX6_carry 9 = .ok (.aload_n 3, 1) := by decide +kernel
theorem dX6_carry_10 : decode cX6_carry 10 = .ok (.aastore, 1) := by decide +kernel
theorem dX6_carry_11 : decode cX6_carry 11 = .ok (.return_, 1) := by decide +kernel
theorem dX6_oneIfThere_0 : decode cX6_oneIfThere 0 = .ok (.aload_n 0, 1) := by decide +kernel
theorem dX6_oneIfThere_1 : decode cX6_oneIfThere 1 = .ok (.ifnonnull 7, 3) := by decide +kernel
theorem dX6_oneIfThere_4 : decode cX6_oneIfThere 4 = .ok (.lconst 0, 1) := by decide +kernel
theorem dX6_oneIfThere_5 : decode cX6_oneIfThere 5 = .ok (.goto 4, 3) := by decide +kernel
theorem dX6_oneIfThere_8 : decode cX6_oneIfThere 8 = .ok (.lconst 1, 1) := by decide +kernel
theorem dX6_oneIfThere_9 : decode cX6_oneIfThere 9 = .ok (.lreturn, 1) := by decide +kernel
set_option maxRecDepth 20000 in
theorem ggX6_reelFault_X6_isDeck : GoodIn wsX6_reelFault wsX6_isDeck := goodIn_r _ [6] (by decide +kernel) (by decide +kernel)
set_option maxRecDepth 20000 in
theorem gX6_reelFault_X6_isDeck : GoodIn wsX6_reelFault (va_wsS RX6 29 yX6_isDeck wsX6_isDeck) := goodIn_app (goodIn_of _ (by decide +kernel)) ggX6_reelFault_X6_isDeck
set_option maxRecDepth 20000 in
theorem ggX6_reelFault_X6_isSort : GoodIn wsX6_reelFault wsX6_isSort := goodIn_r _ [9] (by decide +kernel) (by decide +kernel)
set_option maxRecDepth 20000 in
theorem gX6_reelFault_X6_isSort : GoodIn wsX6_reelFault (va_wsS RX6 33 yX6_isSort wsX6_isSort) := goodIn_app (goodIn_of _ (by decide +kernel)) ggX6_reelFault_X6_isSort
set_option maxRecDepth 20000 in
theorem ggX6_reelFault_X6_reelOn : GoodIn wsX6_reelFault wsX6_reelOn := goodIn_r _ [13, 14, 15, 16, 17, 18] (by decide +kernel) (by decide +kernel)
set_option maxRecDepth 20000 in
theorem gX6_reelFault_X6_reelOn : GoodIn wsX6_reelFault (wsV RX6 58 RX6 yX6_reelOn wsX6_reelOn) := goodIn_app (goodIn_of _ (by decide +kernel)) ggX6_reelFault_X6_reelOn
theorem dX6_reelFault_0 : decode cX6_reelFault 0 = .ok (.iload_n 1, 1) := by decide +kernel
theorem dX6_reelFault_1 : decode cX6_reelFault 1 = .ok (.invokestatic 29, 3) := by decide +kernel
theorem dX6_reelFault_4 : decode cX6_reelFault 4 = .ok (.ifCond .eq 10, 3) := by decide +kernel
theorem dX6_reelFault_7 : decode cX6_reelFault 7 = .ok (.iload_n 2, 1) := by decide +kernel
theorem dX6_reelFault_8 : decode cX6_reelFault 8 = .ok (.invokestatic 33, 3) := by decide +kernel
theorem dX6_reelFault_11 : decode cX6_reelFault 11 = .ok (.ifCond .ne 7, 3) := by decide +kernel
theorem dX6_reelFault_14 : decode cX6_reelFault 14 = .ok (.ldc2_w 36, 3) := by decide +kernel
theorem dX6_reelFault_17 : decode cX6_reelFault 17 = .ok (.lreturn, 1) := by decide +kernel
theorem dX6_reelFault_18 : decode cX6_reelFault 18 = .ok (.aload_n 0, 1) := by decide +kernel
theorem dX6_reelFault_19 : decode cX6_reelFault 19 = .ok (.iload_n 1, 1) := by decide +kernel
theorem dX6_reelFault_20 : decode cX6_reelFault 20 = .ok (.iload_n 2, 1) := by decide +kernel
theorem dX6_reelFault_21 : decode cX6_reelFault 21 = .ok (.invokevirtual 58, 3) := by decide +kernel
theorem dX6_reelFault_24 : decode cX6_reelFault 24 = .ok (.ifnonnull 9, 3) := by decide +kernel
theorem dX6_reelFault_27 : decode cX6_reelFault 27 = .ok (.ldc2_w 134, 3) := by decide +kernel
theorem dX6_reelFault_30 : decode cX6_reelFault 30 = .ok (.goto 4, 3) := by decide +kernel
theorem dX6_reelFault_33 : decode cX6_reelFault 33 = .ok (.lconst 0, 1) := by decide +kernel
theorem dX6_reelFault_34 : decode cX6_reelFault 34 = .ok (.lreturn, 1) := by decide +kernel
set_option maxRecDepth 20000 in
theorem ggX6_placeFault_X6_reelFault : GoodIn wsX6_placeFault wsX6_reelFault := goodIn_r _ [6, 7, 8, 9, 10, 5, 11, 12, 13, 14, 15, 16, 17, 18, 19, 51, 52, 53, 54] (by decide +kernel) (by decide +kernel)
set_option maxRecDepth 20000 in
theorem gX6_placeFault_X6_reelFault : GoodIn wsX6_placeFault (wsV RX6 54 RX6 yX6_reelFault wsX6_reelFault) := goodIn_app (goodIn_of _ (by decide +kernel)) ggX6_placeFault_X6_reelFault
set_option maxRecDepth 20000 in
theorem ggX6_placeFault_X6_reelOn : GoodIn wsX6_placeFault wsX6_reelOn := goodIn_r _ [18, 19, 51, 52, 53, 54] (by decide +kernel) (by decide +kernel)
set_option maxRecDepth 20000 in
theorem gX6_placeFault_X6_reelOn : GoodIn wsX6_placeFault (wsV RX6 58 RX6 yX6_reelOn wsX6_reelOn) := goodIn_app (goodIn_of _ (by decide +kernel)) ggX6_placeFault_X6_reelOn
set_option maxRecDepth 20000 in
theorem ggX6_placeFault_X3_has : GoodIn wsX6_placeFault wsX3_has := goodIn_r _ [25, 26, 27, 28, 29, 30, 31, 32, 33, 34, 35, 36, 37, 38, 39, 40, 41, 42, 43, 44, 45, 46, 47, 55, 56, 57, 58] (by decide +kernel) (by decide +kernel)
set_option maxRecDepth 20000 in
theorem gX6_placeFault_X3_has_u142X0 : GoodIn wsX6_placeFault (va_wsU RX6 142 RX0 "ReelBarn$Reel" ⟨"ReelBarn$Reel", "has", "(I)Z"⟩ yX3_has wsX3_has) := goodIn_app (goodIn_of _ (by decide +kernel)) ggX6_placeFault_X3_has
set_option maxRecDepth 20000 in
theorem gX6_placeFault_X3_has_u142X1 : GoodIn wsX6_placeFault (va_wsU RX6 142 RX1 "ReelBarn$Reel" ⟨"ReelBarn$Reel", "has", "(I)Z"⟩ yX3_has wsX3_has) := goodIn_app (goodIn_of _ (by decide +kernel)) ggX6_placeFault_X3_has
set_option maxRecDepth 20000 in
theorem gX6_placeFault_X3_has_u142X2 : GoodIn wsX6_placeFault (va_wsU RX6 142 RX2 "ReelBarn$Reel" ⟨"ReelBarn$Reel", "has", "(I)Z"⟩ yX3_has wsX3_has) := goodIn_app (goodIn_of _ (by decide +kernel)) ggX6_placeFault_X3_has
set_option maxRecDepth 20000 in
theorem gX6_placeFault_X3_has_u142X5 : GoodIn wsX6_placeFault (va_wsU RX6 142 RX5 "ReelBarn$Reel" ⟨"ReelBarn$Reel", "has", "(I)Z"⟩ yX3_has wsX3_has) := goodIn_app (goodIn_of _ (by decide +kernel)) ggX6_placeFault_X3_has
theorem dX6_placeFault_0 : decode cX6_placeFault 0 = .ok (.aload_n 0, 1) := by decide +kernel
theorem dX6_placeFault_1 : decode cX6_placeFault 1 = .ok (.iload_n 1, 1) := by decide +kernel
theorem dX6_placeFault_2 : decode cX6_placeFault 2 = .ok (.iload_n 2, 1) := by decide +kernel
theorem dX6_placeFault_3 : decode cX6_placeFault 3 = .ok (.invokevirtual 54, 3) := by decide +kernel
theorem dX6_placeFault_6 : decode cX6_placeFault 6 = .ok (.lstore 4, 2) := by decide +kernel
theorem dX6_placeFault_8 : decode cX6_placeFault 8 = .ok (.lload 4, 2) := by decide +kernel
theorem dX6_placeFault_10 : decode cX6_placeFault 10 = .ok (.lconst 0, 1) := by decide +kernel
theorem dX6_placeFault_11 : decode cX6_placeFault 11 = .ok (.lcmp, 1) := by decide +kernel
theorem dX6_placeFault_12 : decode cX6_placeFault 12 = .ok (.ifCond .eq 6, 3) := by decide +kernel
theorem dX6_placeFault_15 : decode cX6_placeFault 15 = .ok (.lload 4, 2) := by decide +kernel
theorem dX6_placeFault_17 : decode cX6_placeFault 17 = .ok (.lreturn, 1) := by decide +kernel
theorem dX6_placeFault_18 : decode cX6_placeFault 18 = .ok (.aload_n 0, 1) := by decide +kernel
theorem dX6_placeFault_19 : decode cX6_placeFault 19 = .ok (.iload_n 1, 1) := by decide +kernel
theorem dX6_placeFault_20 : decode cX6_placeFault 20 = .ok (.iload_n 2, 1) := by decide +kernel
theorem dX6_placeFault_21 : decode cX6_placeFault 21 = .ok (.invokevirtual 58, 3) := by decide +kernel
theorem dX6_placeFault_24 : decode cX6_placeFault 24 = .ok (.iload_n 3, 1) := by decide +kernel
theorem dX6_placeFault_25 : decode cX6_placeFault 25 = .ok (.invokevirtual 142, 3) := by decide +kernel
theorem dX6_placeFault_28 : decode cX6_placeFault 28 = .ok (.ifCond .eq 7, 3) := by decide +kernel
theorem dX6_placeFault_31 : decode cX6_placeFault 31 = .ok (.lconst 0, 1) := by decide +kernel
theorem dX6_placeFault_32 : decode cX6_placeFault 32 = .ok (.goto 6, 3) := by decide +kernel
theorem dX6_placeFault_35 : decode cX6_placeFault 35 = .ok (.ldc2_w 136, 3) := by decide +kernel
theorem dX6_placeFault_38 : decode cX6_placeFault 38 = .ok (.lreturn, 1) := by decide +kernel
set_option maxRecDepth 20000 in
theorem ggX6_wallFault_X6_isSort : GoodIn wsX6_wallFault wsX6_isSort := goodIn_r _ [7] (by decide +kernel) (by decide +kernel)
set_option maxRecDepth 20000 in
theorem gX6_wallFault_X6_isSort : GoodIn wsX6_wallFault (va_wsS RX6 33 yX6_isSort wsX6_isSort) := goodIn_app (goodIn_of _ (by decide +kernel)) ggX6_wallFault_X6_isSort
theorem dX6_wallFault_0 : decode cX6_wallFault 0 = .ok (.iload_n 1, 1) := by decide +kernel
theorem dX6_wallFault_1 : decode cX6_wallFault 1 = .ok (.invokestatic 33, 3) := by decide +kernel
theorem dX6_wallFault_4 : decode cX6_wallFault 4 = .ok (.ifCond .ne 7, 3) := by decide +kernel
theorem dX6_wallFault_7 : decode cX6_wallFault 7 = .ok (.ldc2_w 36, 3) := by decide +kernel
theorem dX6_wallFault_10 : decode cX6_wallFault 10 = .ok (.lreturn, 1) := by decide +kernel
theorem dX6_wallFault_11 : decode cX6_wallFault 11 = .ok (.aload_n 0, 1) := by decide +kernel
theorem dX6_wallFault_12 : decode cX6_wallFault 12 = .ok (.getfield 17, 3) := by decide +kernel
theorem dX6_wallFault_15 : decode cX6_wallFault 15 = .ok (.iload_n 1, 1) := by decide +kernel
theorem dX6_wallFault_16 : decode cX6_wallFault 16 = .ok (.aaload, 1) := by decide +kernel
theorem dX6_wallFault_17 : decode cX6_wallFault 17 = .ok (.ifnonnull 9, 3) := by decide +kernel
theorem dX6_wallFault_20 : decode cX6_wallFault 20 = .ok (.ldc2_w 134, 3) := by decide +kernel
theorem dX6_wallFault_23 : decode cX6_wallFault 23 = .ok (.goto 4, 3) := by decide +kernel
theorem dX6_wallFault_26 : decode cX6_wallFault 26 = .ok (.lconst 0, 1) := by decide +kernel
theorem dX6_wallFault_27 : decode cX6_wallFault 27 = .ok (.lreturn, 1) := by decide +kernel
set_option maxRecDepth 20000 in
theorem ggX6_rowFault_X6_wallFault : GoodIn wsX6_rowFault wsX6_wallFault := goodIn_r _ [8, 9, 1, 10, 11, 12, 7, 13, 14, 15, 16, 17] (by decide +kernel) (by decide +kernel)
set_option maxRecDepth 20000 in
theorem gX6_rowFault_X6_wallFault : GoodIn wsX6_rowFault (wsV RX6 126 RX6 yX6_wallFault wsX6_wallFault) := goodIn_app (goodIn_of _ (by decide +kernel)) ggX6_rowFault_X6_wallFault
theorem dX6_rowFault_0 : decode cX6_rowFault 0 = .ok (.aload_n 0, 1) := by decide +kernel
theorem dX6_rowFault_1 : decode cX6_rowFault 1 = .ok (.iload_n 1, 1) := by decide +kernel
theorem dX6_rowFault_2 : decode cX6_rowFault 2 = .ok (.invokevirtual 126, 3) := by decide +kernel
theorem dX6_rowFault_5 : decode cX6_rowFault 5 = .ok (.lstore_n 3, 1) := by decide +kernel
theorem dX6_rowFault_6 : decode cX6_rowFault 6 = .ok (.lload_n 3, 1) := by decide +kernel
theorem dX6_rowFault_7 : decode cX6_rowFault 7 = .ok (.lconst 0, 1) := by decide +kernel
theorem dX6_rowFault_8 : decode cX6_rowFault 8 = .ok (.lcmp, 1) := by decide +kernel
theorem dX6_rowFault_9 : decode cX6_rowFault 9 = .ok (.ifCond .eq 5, 3) := by decide +kernel
theorem dX6_rowFault_12 : decode cX6_rowFault 12 = .ok (.lload_n 3, 1) := by decide +kernel
theorem dX6_rowFault_13 : decode cX6_rowFault 13 = .ok (.lreturn, 1) := by decide +kernel
theorem dX6_rowFault_14 : decode cX6_rowFault 14 = .ok (.iload_n 2, 1) := by decide +kernel
theorem dX6_rowFault_15 : decode cX6_rowFault 15 = .ok (.ifCond .lt 21, 3) := by decide +kernel
theorem dX6_rowFault_18 : decode cX6_rowFault 18 = .ok (.iload_n 2, 1) := by decide +kernel
theorem dX6_rowFault_19 : decode cX6_rowFault 19 = .ok (.aload_n 0, 1) := by decide +kernel
theorem dX6_rowFault_20 : decode cX6_rowFault 20 = .ok (.getfield 17, 3) := by decide +kernel
theorem dX6_rowFault_23 : decode cX6_rowFault 23 = .ok (.iload_n 1, 1) := by decide +kernel
theorem dX6_rowFault_24 : decode cX6_rowFault 24 = .ok (.aaload, 1) := by decide +kernel
theorem dX6_rowFault_25 : decode cX6_rowFault 25 = .ok (.getfield 120, 3) := by decide +kernel
theorem dX6_rowFault_28 : decode cX6_rowFault 28 = .ok (.arraylength, 1) := by decide +kernel
theorem dX6_rowFault_29 : decode cX6_rowFault 29 = .ok (.if_icmp .ge 7, 3) := by decide +kernel
theorem dX6_rowFault_32 : decode cX6_rowFault 32 = .ok (.lconst 0, 1) := by decide +kernel
theorem dX6_rowFault_33 : decode cX6_rowFault 33 = .ok (.goto 6, 3) := by decide +kernel
theorem dX6_rowFault_36 : decode cX6_rowFault 36 = .ok (.ldc2_w 136, 3) := by decide +kernel
theorem dX6_rowFault_39 : decode cX6_rowFault 39 = .ok (.lreturn, 1) := by decide +kernel
set_option maxRecDepth 20000 in
theorem ggX6_wallReelFault_X6_rowFault : GoodIn wsX6_wallReelFault wsX6_rowFault := goodIn_r _ [8, 1, 2, 9, 10, 11, 12, 7, 13, 14, 15, 16, 17, 18, 19, 20, 21, 22, 23] (by decide +kernel) (by decide +kernel)
set_option maxRecDepth 20000 in
theorem gX6_wallReelFault_X6_rowFault : GoodIn wsX6_wallReelFault (wsV RX6 117 RX6 yX6_rowFault wsX6_rowFault) := goodIn_app (goodIn_of _ (by decide +kernel)) ggX6_wallReelFault_X6_rowFault
theorem dX6_wallReelFault_0 : decode cX6_wallReelFault 0 = .ok (.aload_n 0, 1) := by decide +kernel
theorem dX6_wallReelFault_1 : decode cX6_wallReelFault 1 = .ok (.iload_n 1, 1) := by decide +kernel
theorem dX6_wallReelFault_2 : decode cX6_wallReelFault 2 = .ok (.iload_n 2, 1) := by decide +kernel
theorem dX6_wallReelFault_3 : decode cX6_wallReelFault 3 = .ok (.invokevirtual 117, 3) := by decide +kernel
theorem dX6_wallReelFault_6 : decode cX6_wallReelFault 6 = .ok (.lstore_n 3, 1) := by decide +kernel
theorem dX6_wallReelFault_7 : decode cX6_wallReelFault 7 = .ok (.lload_n 3, 1) := by decide +kernel
theorem dX6_wallReelFault_8 : decode cX6_wallReelFault 8 = .ok (.lconst 0, 1) := by decide +kernel
theorem dX6_wallReelFault_9 : decode cX6_wallReelFault 9 = .ok (.lcmp, 1) := by decide +kernel
theorem dX6_wallReelFault_10 : decode cX6_wallReelFault 10 = .ok (.ifCond .eq 5, 3) := by decide +kernel
theorem dX6_wallReelFault_13 : decode cX6_wallReelFault 13 = .ok (.lload_n 3, 1) := by decide +kernel
theorem dX6_wallReelFault_14 : decode cX6_wallReelFault 14 = .ok (.lreturn, 1) := by decide +kernel
theorem dX6_wallReelFault_15 : decode cX6_wallReelFault 15 = .ok (.aload_n 0, 1) := by decide +kernel
theorem dX6_wallReelFault_16 : decode cX6_wallReelFault 16 = .ok (.getfield 17, 3) := by decide +kernel
theorem dX6_wallReelFault_19 : decode cX6_wallReelFault 19 = .ok (.iload_n 1, 1) := by decide +kernel
theorem dX6_wallReelFault_20 : decode cX6_wallReelFault 20 = .ok (.aaload, 1) := by decide +kernel
theorem dX6_wallReelFault_21 : decode cX6_wallReelFault 21 = .ok (.getfield 120, 3) := by decide +kernel
theorem dX6_wallReelFault_24 : decode cX6_wallReelFault 24 = .ok (.iload_n 2, 1) := by decide +kernel
theorem dX6_wallReelFault_25 : decode cX6_wallReelFault 25 = .ok (.aaload, 1) := by decide +kernel
theorem dX6_wallReelFault_26 : decode cX6_wallReelFault 26 = .ok (.ifnonnull 9, 3) := by decide +kernel
theorem dX6_wallReelFault_29 : decode cX6_wallReelFault 29 = .ok (.ldc2_w 145, 3) := by decide +kernel
theorem dX6_wallReelFault_32 : decode cX6_wallReelFault 32 = .ok (.goto 4, 3) := by decide +kernel
theorem dX6_wallReelFault_35 : decode cX6_wallReelFault 35 = .ok (.lconst 0, 1) := by decide +kernel
theorem dX6_wallReelFault_36 : decode cX6_wallReelFault 36 = .ok (.lreturn, 1) := by decide +kernel
set_option maxRecDepth 20000 in
theorem ggX6_wallPlaceFault_X6_wallReelFault : GoodIn wsX6_wallPlaceFault wsX6_wallReelFault := goodIn_r _ [8, 1, 2, 9, 10, 11, 12, 7, 13, 3, 14, 15, 16, 17, 18, 19, 20, 21, 22, 54, 55, 56, 57, 58] (by decide +kernel) (by decide +kernel)
set_option maxRecDepth 20000 in
theorem gX6_wallPlaceFault_X6_wallReelFault : GoodIn wsX6_wallPlaceFault (wsV RX6 130 RX6 yX6_wallReelFault wsX6_wallReelFault) := goodIn_app (goodIn_of _ (by decide +kernel)) ggX6_wallPlaceFault_X6_wallReelFault
set_option maxRecDepth 20000 in
theorem ggX6_wallPlaceFault_X3_has : GoodIn wsX6_wallPlaceFault wsX3_has := goodIn_r _ [28, 29, 30, 31, 32, 33, 34, 35, 36, 37, 38, 39, 40, 41, 42, 43, 44, 45, 46, 47, 48, 49, 50, 59, 60, 61, 62] (by decide +kernel) (by decide +kernel)
set_option maxRecDepth 20000 in
theorem gX6_wallPlaceFault_X3_has_u142X0 : GoodIn wsX6_wallPlaceFault (va_wsU RX6 142 RX0 "ReelBarn$Reel" ⟨"ReelBarn$Reel", "has", "(I)Z"⟩ yX3_has wsX3_has) := goodIn_app (goodIn_of _ (by decide +kernel)) ggX6_wallPlaceFault_X3_has
set_option maxRecDepth 20000 in
theorem gX6_wallPlaceFault_X3_has_u142X1 : GoodIn wsX6_wallPlaceFault (va_wsU RX6 142 RX1 "ReelBarn$Reel" ⟨"ReelBarn$Reel", "has", "(I)Z"⟩ yX3_has wsX3_has) := goodIn_app (goodIn_of _ (by decide +kernel)) ggX6_wallPlaceFault_X3_has
set_option maxRecDepth 20000 in
theorem gX6_wallPlaceFault_X3_has_u142X2 : GoodIn wsX6_wallPlaceFault (va_wsU RX6 142 RX2 "ReelBarn$Reel" ⟨"ReelBarn$Reel", "has", "(I)Z"⟩ yX3_has wsX3_has) := goodIn_app (goodIn_of _ (by decide +kernel)) ggX6_wallPlaceFault_X3_has
set_option maxRecDepth 20000 in
theorem gX6_wallPlaceFault_X3_has_u142X5 : GoodIn wsX6_wallPlaceFault (va_wsU RX6 142 RX5 "ReelBarn$Reel" ⟨"ReelBarn$Reel", "has", "(I)Z"⟩ yX3_has wsX3_has) := goodIn_app (goodIn_of _ (by decide +kernel)) ggX6_wallPlaceFault_X3_has
theorem dX6_wallPlaceFault_0 : decode cX6_wallPlaceFault 0 = .ok (.aload_n 0, 1) := by decide +kernel
theorem dX6_wallPlaceFault_1 : decode cX6_wallPlaceFault 1 = .ok (.iload_n 1, 1) := by decide +kernel
theorem dX6_wallPlaceFault_2 : decode cX6_wallPlaceFault 2 = .ok (.iload_n 2, 1) := by decide +kernel
theorem dX6_wallPlaceFault_3 : decode cX6_wallPlaceFault 3 = .ok (.invokevirtual 130, 3) := by decide +kernel
theorem dX6_wallPlaceFault_6 : decode cX6_wallPlaceFault 6 = .ok (.lstore 4, 2) := by decide +kernel
theorem dX6_wallPlaceFault_8 : decode cX6_wallPlaceFault 8 = .ok (.lload 4, 2) := by decide +kernel
theorem dX6_wallPlaceFault_10 : decode cX6_wallPlaceFault 10 = .ok (.lconst 0, 1) := by decide +kernel
theorem dX6_wallPlaceFault_11 : decode cX6_wallPlaceFault 11 = .ok (.lcmp, 1) := by decide +kernel
theorem dX6_wallPlaceFault_12 : decode cX6_wallPlaceFault 12 = .ok (.ifCond .eq 6, 3) := by decide +kernel
theorem dX6_wallPlaceFault_15 : decode cX6_wallPlaceFault 15 = .ok (.lload 4, 2) := by decide +kernel
theorem dX6_wallPlaceFault_17 : decode cX6_wallPlaceFault 17 = .ok (.lreturn, 1) := by decide +kernel
theorem dX6_wallPlaceFault_18 : decode cX6_wallPlaceFault 18 = .ok (.aload_n 0, 1) := by decide +kernel
theorem dX6_wallPlaceFault_19 : decode cX6_wallPlaceFault 19 = .ok (.getfield 17, 3) := by decide +kernel
theorem dX6_wallPlaceFault_22 : decode cX6_wallPlaceFault 22 = .ok (.iload_n 1, 1) := by decide +kernel
theorem dX6_wallPlaceFault_23 : decode cX6_wallPlaceFault 23 = .ok (.aaload, 1) := by decide +kernel
theorem dX6_wallPlaceFault_24 : decode cX6_wallPlaceFault 24 = .ok (.getfield 120, 3) := by decide +kernel
theorem dX6_wallPlaceFault_27 : decode cX6_wallPlaceFault 27 = .ok (.iload_n 2, 1) := by decide +kernel
theorem dX6_wallPlaceFault_28 : decode cX6_wallPlaceFault 28 = .ok (.aaload, 1) := by decide +kernel
theorem dX6_wallPlaceFault_29 : decode cX6_wallPlaceFault 29 = .ok (.iload_n 3, 1) := by decide +kernel
theorem dX6_wallPlaceFault_30 : decode cX6_wallPlaceFault 30 = .ok (.invokevirtual 142, 3) := by decide +kernel
theorem dX6_wallPlaceFault_33 : decode cX6_wallPlaceFault 33 = .ok (.ifCond .eq 7, 3) := by decide +kernel
theorem dX6_wallPlaceFault_36 : decode cX6_wallPlaceFault 36 = .ok (.lconst 0, 1) := by decide +kernel
theorem dX6_wallPlaceFault_37 : decode cX6_wallPlaceFault 37 = .ok (.goto 6, 3) := by decide +kernel
theorem dX6_wallPlaceFault_40 : decode cX6_wallPlaceFault 40 = .ok (.ldc2_w 136, 3) := by decide +kernel
theorem dX6_wallPlaceFault_43 : decode cX6_wallPlaceFault 43 = .ok (.lreturn, 1) := by decide +kernel
theorem dX6_gridFault_0 : decode cX6_gridFault 0 = .ok (.iload_n 0, 1) := by decide +kernel
theorem dX6_gridFault_1 : decode cX6_gridFault 1 = .ok (.bipush 12, 2) := by decide +kernel
theorem dX6_gridFault_3 : decode cX6_gridFault 3 = .ok (.if_icmp .gt 9, 3) := by decide +kernel
theorem dX6_gridFault_6 : decode cX6_gridFault 6 = .ok (.iload_n 1, 1) := by decide +kernel
theorem dX6_gridFault_7 : decode cX6_gridFault 7 = .ok (.bipush 12, 2) := by decide +kernel
theorem dX6_gridFault_9 : decode cX6_gridFault 9 = .ok (.if_icmp .le 7, 3) := by decide +kernel
theorem dX6_gridFault_12 : decode cX6_gridFault 12 = .ok (.ldc2_w 42, 3) := by decide +kernel
theorem dX6_gridFault_15 : decode cX6_gridFault 15 = .ok (.lreturn, 1) := by decide +kernel
theorem dX6_gridFault_16 : decode cX6_gridFault 16 = .ok (.iload_n 0, 1) := by decide +kernel
theorem dX6_gridFault_17 : decode cX6_gridFault 17 = .ok (.ifCond .lt 7, 3) := by decide +kernel
theorem dX6_gridFault_20 : decode cX6_gridFault 20 = .ok (.iload_n 1, 1) := by decide +kernel
theorem dX6_gridFault_21 : decode cX6_gridFault 21 = .ok (.ifCond .ge 9, 3) := by decide +kernel
theorem dX6_gridFault_24 : decode cX6_gridFault 24 = .ok (.ldc2_w 44, 3) := by decide +kernel
theorem dX6_gridFault_27 : decode cX6_gridFault 27 = .ok (.goto 4, 3) := by decide +kernel
theorem dX6_gridFault_30 : decode cX6_gridFault 30 = .ok (.lconst 0, 1) := by decide +kernel
theorem dX6_gridFault_31 : decode cX6_gridFault 31 = .ok (.lreturn, 1) := by decide +kernel
set_option maxRecDepth 20000 in
theorem ggX6_newReel_X2_init : GoodIn wsX6_newReel wsX2_init := goodIn_r _ [15, 16, 17, 18, 19, 20, 21, 22, 23, 39] (by decide +kernel) (by decide +kernel)
set_option maxRecDepth 20000 in
theorem gX6_newReel_X2_init : GoodIn wsX6_newReel (wsX2_init) := ggX6_newReel_X2_init
set_option maxRecDepth 20000 in
theorem ggX6_newReel_X5_init : GoodIn wsX6_newReel wsX5_init := goodIn_r _ [26, 27, 28, 18, 19, 20, 21, 22, 23, 40] (by decide +kernel) (by decide +kernel)
set_option maxRecDepth 20000 in
theorem gX6_newReel_X5_init : GoodIn wsX6_newReel (wsX5_init) := ggX6_newReel_X5_init
set_option maxRecDepth 20000 in
theorem ggX6_newReel_X0_init : GoodIn wsX6_newReel wsX0_init := goodIn_r _ [31, 32, 33, 18, 19, 20, 21, 22, 23, 41] (by decide +kernel) (by decide +kernel)
set_option maxRecDepth 20000 in
theorem gX6_newReel_X0_init : GoodIn wsX6_newReel (wsX0_init) := ggX6_newReel_X0_init
set_option maxRecDepth 20000 in
theorem ggX6_newReel_X1_init : GoodIn wsX6_newReel wsX1_init := goodIn_r _ [36, 37, 38, 18, 19, 20, 21, 22, 23, 42] (by decide +kernel) (by decide +kernel)
set_option maxRecDepth 20000 in
theorem gX6_newReel_X1_init : GoodIn wsX6_newReel (wsX1_init) := ggX6_newReel_X1_init
theorem dX6_newReel_0 : decode cX6_newReel 0 = .ok (.iload_n 0, 1) := by decide +kernel
theorem dX6_newReel_1 : decode cX6_newReel 1 = .ok (.tableswitch 54 0 2 #[27, 36, 45], 27) := by decide +kernel
theorem dX6_newReel_28 : decode cX6_newReel 28 = .ok (.new 147, 3) := by decide +kernel
theorem dX6_newReel_31 : decode cX6_newReel 31 = .ok (.dup, 1) := by decide +kernel
theorem dX6_newReel_32 : decode cX6_newReel 32 = .ok (.iload_n 1, 1) := by decide +kernel
theorem dX6_newReel_33 : decode cX6_newReel 33 = .ok (.invokespecial 149, 3) := by decide +kernel
theorem dX6_newReel_36 : decode cX6_newReel 36 = .ok (.areturn, 1) := by decide +kernel
theorem dX6_newReel_37 : decode cX6_newReel 37 = .ok (.new 151, 3) := by decide +kernel
theorem dX6_newReel_40 : decode cX6_newReel 40 = .ok (.dup, 1) := by decide +kernel
theorem dX6_newReel_41 : decode cX6_newReel 41 = .ok (.iload_n 1, 1) := by decide +kernel
theorem dX6_newReel_42 : decode cX6_newReel 42 = .ok (.invokespecial 153, 3) := by decide +kernel
theorem dX6_newReel_45 : decode cX6_newReel 45 = .ok (.areturn, 1) := by decide +kernel
theorem dX6_newReel_46 : decode cX6_newReel 46 = .ok (.new 154, 3) := by decide +kernel
theorem dX6_newReel_49 : decode cX6_newReel 49 = .ok (.dup, 1) := by decide +kernel
theorem dX6_newReel_50 : decode cX6_newReel 50 = .ok (.iload_n 1, 1) := by decide +kernel
theorem dX6_newReel_51 : decode cX6_newReel 51 = .ok (.invokespecial 156, 3) := by decide +kernel
theorem dX6_newReel_54 : decode cX6_newReel 54 = .ok (.areturn, 1) := by decide +kernel
theorem dX6_newReel_55 : decode cX6_newReel 55 = .ok (.new 157, 3) := by decide +kernel
theorem dX6_newReel_58 : decode cX6_newReel 58 = .ok (.dup, 1) := by decide +kernel
theorem dX6_newReel_59 : decode cX6_newReel 59 = .ok (.iload_n 1, 1) := by decide +kernel
theorem dX6_newReel_60 : decode cX6_newReel 60 = .ok (.invokespecial 159, 3) := by decide +kernel
theorem dX6_newReel_63 : decode cX6_newReel 63 = .ok (.areturn, 1) := by decide +kernel
set_option maxRecDepth 20000 in
theorem ggX6_newWall_X4_init : GoodIn wsX6_newWall wsX4_init := goodIn_r _ [7, 8, 9, 10, 11, 12, 53] (by decide +kernel) (by decide +kernel)
set_option maxRecDepth 20000 in
theorem gX6_newWall_X4_init : GoodIn wsX6_newWall (wsX4_init) := ggX6_newWall_X4_init
set_option maxRecDepth 20000 in
theorem ggX6_newWall_X6_newReel : GoodIn wsX6_newWall wsX6_newReel := goodIn_r _ [16, 17, 18, 19, 20, 21, 22, 23, 24, 25, 26, 27, 28, 29, 30, 31, 32, 33, 34, 35, 36, 37, 9, 10, 38, 39, 40, 41, 42, 43, 44, 45, 46, 47, 48, 49, 50, 51, 52, 54, 55, 56, 57] (by decide +kernel) (by decide +kernel)
set_option maxRecDepth 20000 in
theorem gX6_newWall_X6_newReel : GoodIn wsX6_newWall (va_wsS RX6 46 yX6_newReel wsX6_newReel) := goodIn_app (goodIn_of _ (by decide +kernel)) ggX6_newWall_X6_newReel
theorem dX6_newWall_0 : decode cX6_newWall 0 = .ok (.new 15, 3) := by decide +kernel
theorem dX6_newWall_3 : decode cX6_newWall 3 = .ok (.dup, 1) := by decide +kernel
theorem dX6_newWall_4 : decode cX6_newWall 4 = .ok (.iload_n 1, 1) := by decide +kernel
theorem dX6_newWall_5 : decode cX6_newWall 5 = .ok (.invokespecial 160, 3) := by decide +kernel
theorem dX6_newWall_8 : decode cX6_newWall 8 = .ok (.astore_n 3, 1) := by decide +kernel
theorem dX6_newWall_9 : decode cX6_newWall 9 = .ok (.iconst 0, 1) := by decide +kernel
theorem dX6_newWall_10 : decode cX6_newWall 10 = .ok (.istore 4, 2) := by decide +kernel
theorem dX6_newWall_12 : decode cX6_newWall 12 = .ok (.iload 4, 2) := by decide +kernel
theorem dX6_newWall_14 : decode cX6_newWall 14 = .ok (.iload_n 1, 1) := by decide +kernel
theorem dX6_newWall_15 : decode cX6_newWall 15 = .ok (.if_icmp .ge 21, 3) := by decide +kernel
theorem dX6_newWall_18 : decode cX6_newWall 18 = .ok (.aload_n 3, 1) := by decide +kernel
theorem dX6_newWall_19 : decode cX6_newWall 19 = .ok (.getfield 120, 3) := by decide +kernel
theorem dX6_newWall_22 : decode cX6_newWall 22 = .ok (.iload 4, 2) := by decide +kernel
theorem dX6_newWall_24 : decode cX6_newWall 24 = .ok (.iload_n 0, 1) := by decide +kernel
theorem dX6_newWall_25 : decode cX6_newWall 25 = .ok (.iload_n 2, 1) := by decide +kernel
theorem dX6_newWall_26 : decode cX6_newWall 26 = .ok (.invokestatic 46, 3) := by decide +kernel
theorem dX6_newWall_29 : decode cX6_newWall 29 = .ok (.aastore, 1) := by decide +kernel
theorem dX6_newWall_30 : decode cX6_newWall 30 = .ok (.iinc 4 1, 3) := by decide +kernel
theorem dX6_newWall_33 : decode cX6_newWall 33 = .ok (.goto (-21), 3) := by decide +kernel
theorem dX6_newWall_36 : decode cX6_newWall 36 = .ok (.aload_n 3, 1) := by decide +kernel
theorem dX6_newWall_37 : decode cX6_newWall 37 = .ok (.areturn, 1) := by decide +kernel
