def f_Mod_write (a1 a2 a3 : Int32) (s0 : tj_S) : Option (Int32 × tj_S) :=
  if (s0 0 12) = (0 : Int32) then
    some ((0 : Int32), s0)
  else
    bd (f_Mod_file a1 s0) fun r3 s2 =>
    if r3 = (0 : Int32) then
      some ((0 : Int32), s2)
    else
      if a2 < (0 : Int32) then
        some ((0 : Int32), s2)
      else
        if (23 : Int32) < a2 then
          some ((0 : Int32), s2)
        else
          gd (inb ((4 : Int32) * a1) 92) <|
          if a2 ≤ (s2 2 (Int32.toNatClampNeg ((4 : Int32) * a1))) then
            gd (inb ((4 : Int32) * a1) 92) <|
            if a2 = (s2 2 (Int32.toNatClampNeg ((4 : Int32) * a1))) then
              if (a2 - a2 / (4 : Int32) * (4 : Int32)) ≤ (0 : Int32) then
                if a2 = (8 : Int32) then
                  bd (f_Mod_opens s2) fun r93 s92 =>
                  if r93 < (2 : Int32) then
                    some ((0 : Int32), s92)
                  else
                    bd (f_Mod_ready s92) fun r96 s95 =>
                    if r96 = (0 : Int32) then
                      some ((0 : Int32), s95)
                    else
                      bd (f_Mod_take (((4 : Int32) * a1) + (3 : Int32)) s95) fun r99 s98 =>
                      gd (inb r99 23) <|
                      nm (up2 s98 3 (Int32.toNatClampNeg r99) (vp_nar .boolean (1 : Int32))) fun s101 =>
                      bd (f_Mod_cell a1 (a2 / (4 : Int32)) s101) fun r104 s103 =>
                      bd (f_Mod_take r104 s103) fun r107 s106 =>
                      if a2 ≤ (7 : Int32) then
                        gd (inb ((4 : Int32) * a1) 92) <|
                        nm (up2 s106 2 (Int32.toNatClampNeg ((4 : Int32) * a1)) (a2 + (1 : Int32))) fun s109 =>
                        gd (inb a1 23) <|
                        nm (up2 s109 3 (Int32.toNatClampNeg a1) (vp_nar .boolean (1 : Int32))) fun s111 =>
                        bd (f_Mod_cell a1 (a2 / (4 : Int32)) s111) fun r114 s113 =>
                        gd (inb r114 92) <|
                        nm ((s113 2 (Int32.toNatClampNeg r114))) fun x116 =>
                        gd (inb (((4 : Int32) * x116) + (a2 - a2 / (4 : Int32) * (4 : Int32))) 92) <|
                        nm (up2 s113 2 (Int32.toNatClampNeg (((4 : Int32) * x116) + (a2 - a2 / (4 : Int32) * (4 : Int32)))) a3) fun s118 =>
                        if (s118 0 13) = (2 : Int32) then
                          gd (inb x116 23) <|
                          nm (up2 s118 3 (Int32.toNatClampNeg x116) (vp_nar .boolean (1 : Int32))) fun s127 =>
                          some ((1 : Int32), s127)
                        else
                          bd (f_Mod_isDirty x116 s118) fun r121 s120 =>
                          if r121 = (0 : Int32) then
                            gd (inb (s120 0 5) 16) <|
                            nm (up2 s120 5 (Int32.toNatClampNeg (s120 0 5)) x116) fun s123 =>
                            nm (up2 s123 0 5 ((s123 0 5) + (1 : Int32))) fun s124 =>
                            some ((1 : Int32), s124)
                          else
                            some ((1 : Int32), s120)
                      else
                        gd (inb (((4 : Int32) * a1) + (3 : Int32)) 92) <|
                        gd (inb (s106 2 (Int32.toNatClampNeg (((4 : Int32) * a1) + (3 : Int32)))) 23) <|
                        nm (up2 s106 3 (Int32.toNatClampNeg (s106 2 (Int32.toNatClampNeg (((4 : Int32) * a1) + (3 : Int32))))) (vp_nar .boolean (1 : Int32))) fun s131 =>
                        gd (inb ((4 : Int32) * a1) 92) <|
                        nm (up2 s131 2 (Int32.toNatClampNeg ((4 : Int32) * a1)) (a2 + (1 : Int32))) fun s133 =>
                        gd (inb a1 23) <|
                        nm (up2 s133 3 (Int32.toNatClampNeg a1) (vp_nar .boolean (1 : Int32))) fun s135 =>
                        bd (f_Mod_cell a1 (a2 / (4 : Int32)) s135) fun r138 s137 =>
                        gd (inb r138 92) <|
                        nm ((s137 2 (Int32.toNatClampNeg r138))) fun x140 =>
                        gd (inb (((4 : Int32) * x140) + (a2 - a2 / (4 : Int32) * (4 : Int32))) 92) <|
                        nm (up2 s137 2 (Int32.toNatClampNeg (((4 : Int32) * x140) + (a2 - a2 / (4 : Int32) * (4 : Int32)))) a3) fun s142 =>
                        if (s142 0 13) = (2 : Int32) then
                          gd (inb x140 23) <|
                          nm (up2 s142 3 (Int32.toNatClampNeg x140) (vp_nar .boolean (1 : Int32))) fun s151 =>
                          some ((1 : Int32), s151)
                        else
                          bd (f_Mod_isDirty x140 s142) fun r145 s144 =>
                          if r145 = (0 : Int32) then
                            gd (inb (s144 0 5) 16) <|
                            nm (up2 s144 5 (Int32.toNatClampNeg (s144 0 5)) x140) fun s147 =>
                            nm (up2 s147 0 5 ((s147 0 5) + (1 : Int32))) fun s148 =>
                            some ((1 : Int32), s148)
                          else
                            some ((1 : Int32), s144)
                else
                  bd (f_Mod_opens s2) fun r33 s32 =>
                  if r33 < (1 : Int32) then
                    some ((0 : Int32), s32)
                  else
                    bd (f_Mod_ready s32) fun r36 s35 =>
                    if r36 = (0 : Int32) then
                      some ((0 : Int32), s35)
                    else
                      bd (f_Mod_cell a1 (a2 / (4 : Int32)) s35) fun r39 s38 =>
                      bd (f_Mod_take r39 s38) fun r42 s41 =>
                      if a2 ≤ (7 : Int32) then
                        gd (inb ((4 : Int32) * a1) 92) <|
                        nm (up2 s41 2 (Int32.toNatClampNeg ((4 : Int32) * a1)) (a2 + (1 : Int32))) fun s44 =>
                        gd (inb a1 23) <|
                        nm (up2 s44 3 (Int32.toNatClampNeg a1) (vp_nar .boolean (1 : Int32))) fun s46 =>
                        bd (f_Mod_cell a1 (a2 / (4 : Int32)) s46) fun r49 s48 =>
                        gd (inb r49 92) <|
                        nm ((s48 2 (Int32.toNatClampNeg r49))) fun x51 =>
                        gd (inb (((4 : Int32) * x51) + (a2 - a2 / (4 : Int32) * (4 : Int32))) 92) <|
                        nm (up2 s48 2 (Int32.toNatClampNeg (((4 : Int32) * x51) + (a2 - a2 / (4 : Int32) * (4 : Int32)))) a3) fun s53 =>
                        if (s53 0 13) = (2 : Int32) then
                          gd (inb x51 23) <|
                          nm (up2 s53 3 (Int32.toNatClampNeg x51) (vp_nar .boolean (1 : Int32))) fun s62 =>
                          some ((1 : Int32), s62)
                        else
                          bd (f_Mod_isDirty x51 s53) fun r56 s55 =>
                          if r56 = (0 : Int32) then
                            gd (inb (s55 0 5) 16) <|
                            nm (up2 s55 5 (Int32.toNatClampNeg (s55 0 5)) x51) fun s58 =>
                            nm (up2 s58 0 5 ((s58 0 5) + (1 : Int32))) fun s59 =>
                            some ((1 : Int32), s59)
                          else
                            some ((1 : Int32), s55)
                      else
                        gd (inb (((4 : Int32) * a1) + (3 : Int32)) 92) <|
                        gd (inb (s41 2 (Int32.toNatClampNeg (((4 : Int32) * a1) + (3 : Int32)))) 23) <|
                        nm (up2 s41 3 (Int32.toNatClampNeg (s41 2 (Int32.toNatClampNeg (((4 : Int32) * a1) + (3 : Int32))))) (vp_nar .boolean (1 : Int32))) fun s66 =>
                        gd (inb ((4 : Int32) * a1) 92) <|
                        nm (up2 s66 2 (Int32.toNatClampNeg ((4 : Int32) * a1)) (a2 + (1 : Int32))) fun s68 =>
                        gd (inb a1 23) <|
                        nm (up2 s68 3 (Int32.toNatClampNeg a1) (vp_nar .boolean (1 : Int32))) fun s70 =>
                        bd (f_Mod_cell a1 (a2 / (4 : Int32)) s70) fun r73 s72 =>
                        gd (inb r73 92) <|
                        nm ((s72 2 (Int32.toNatClampNeg r73))) fun x75 =>
                        gd (inb (((4 : Int32) * x75) + (a2 - a2 / (4 : Int32) * (4 : Int32))) 92) <|
                        nm (up2 s72 2 (Int32.toNatClampNeg (((4 : Int32) * x75) + (a2 - a2 / (4 : Int32) * (4 : Int32)))) a3) fun s77 =>
                        if (s77 0 13) = (2 : Int32) then
                          gd (inb x75 23) <|
                          nm (up2 s77 3 (Int32.toNatClampNeg x75) (vp_nar .boolean (1 : Int32))) fun s86 =>
                          some ((1 : Int32), s86)
                        else
                          bd (f_Mod_isDirty x75 s77) fun r80 s79 =>
                          if r80 = (0 : Int32) then
                            gd (inb (s79 0 5) 16) <|
                            nm (up2 s79 5 (Int32.toNatClampNeg (s79 0 5)) x75) fun s82 =>
                            nm (up2 s82 0 5 ((s82 0 5) + (1 : Int32))) fun s83 =>
                            some ((1 : Int32), s83)
                          else
                            some ((1 : Int32), s79)
              else
                bd (f_Mod_opens s2) fun r159 s158 =>
                if r159 < (0 : Int32) then
                  some ((0 : Int32), s158)
                else
                  bd (f_Mod_ready s158) fun r162 s161 =>
                  if r162 = (0 : Int32) then
                    some ((0 : Int32), s161)
                  else
                    gd (inb ((4 : Int32) * a1) 92) <|
                    nm (up2 s161 2 (Int32.toNatClampNeg ((4 : Int32) * a1)) (a2 + (1 : Int32))) fun s164 =>
                    gd (inb a1 23) <|
                    nm (up2 s164 3 (Int32.toNatClampNeg a1) (vp_nar .boolean (1 : Int32))) fun s166 =>
                    bd (f_Mod_cell a1 (a2 / (4 : Int32)) s166) fun r169 s168 =>
                    gd (inb r169 92) <|
                    nm ((s168 2 (Int32.toNatClampNeg r169))) fun x171 =>
                    gd (inb (((4 : Int32) * x171) + (a2 - a2 / (4 : Int32) * (4 : Int32))) 92) <|
                    nm (up2 s168 2 (Int32.toNatClampNeg (((4 : Int32) * x171) + (a2 - a2 / (4 : Int32) * (4 : Int32)))) a3) fun s173 =>
                    if (s173 0 13) = (2 : Int32) then
                      gd (inb x171 23) <|
                      nm (up2 s173 3 (Int32.toNatClampNeg x171) (vp_nar .boolean (1 : Int32))) fun s182 =>
                      some ((1 : Int32), s182)
                    else
                      bd (f_Mod_isDirty x171 s173) fun r176 s175 =>
                      if r176 = (0 : Int32) then
                        gd (inb (s175 0 5) 16) <|
                        nm (up2 s175 5 (Int32.toNatClampNeg (s175 0 5)) x171) fun s178 =>
                        nm (up2 s178 0 5 ((s178 0 5) + (1 : Int32))) fun s179 =>
                        some ((1 : Int32), s179)
                      else
                        some ((1 : Int32), s175)
            else
              bd (f_Mod_opens s2) fun r8 s7 =>
              if r8 < (0 : Int32) then
                some ((0 : Int32), s7)
              else
                bd (f_Mod_ready s7) fun r11 s10 =>
                if r11 = (0 : Int32) then
                  some ((0 : Int32), s10)
                else
                  bd (f_Mod_cell a1 (a2 / (4 : Int32)) s10) fun r14 s13 =>
                  gd (inb r14 92) <|
                  nm ((s13 2 (Int32.toNatClampNeg r14))) fun x16 =>
                  gd (inb (((4 : Int32) * x16) + (a2 - a2 / (4 : Int32) * (4 : Int32))) 92) <|
                  nm (up2 s13 2 (Int32.toNatClampNeg (((4 : Int32) * x16) + (a2 - a2 / (4 : Int32) * (4 : Int32)))) a3) fun s18 =>
                  if (s18 0 13) = (2 : Int32) then
                    gd (inb x16 23) <|
                    nm (up2 s18 3 (Int32.toNatClampNeg x16) (vp_nar .boolean (1 : Int32))) fun s27 =>
                    some ((1 : Int32), s27)
                  else
                    bd (f_Mod_isDirty x16 s18) fun r21 s20 =>
                    if r21 = (0 : Int32) then
                      gd (inb (s20 0 5) 16) <|
                      nm (up2 s20 5 (Int32.toNatClampNeg (s20 0 5)) x16) fun s23 =>
                      nm (up2 s23 0 5 ((s23 0 5) + (1 : Int32))) fun s24 =>
                      some ((1 : Int32), s24)
                    else
                      some ((1 : Int32), s20)
          else
            some ((0 : Int32), s2)
set_option maxRecDepth 100000 in
set_option maxHeartbeats 4000000 in
theorem c_Mod_write {l : Launch} {D : va_G} {K : Nat → ClassId} {q : Nat → Nat} {a1 a2 a3 : Int32} {s0 sE : tj_S} {rE : Int32} (h : f_Mod_write a1 a2 a3 s0 = some (rE, sE)) : tj_Mi l D tj_cls (M_tys K) tj_N tj_T (M_cw K q) y_Mod_write b_Mod_write 7 .boolean 6 130 [.ref (q 0), .int a1, .int a2, .int a3] s0 rE sE := by
  refine tj_start_i (by decide +kernel) (Nat.le_of_ble_eq_true rfl) (fun Γ C fin => ?_)
  show tj_W Γ (M_cw K q) s0 [(0, .ref (q 0)), (1, .int a1), (2, .int a2), (3, .int a3)] 0 []
  unfold f_Mod_write at h
  refine xw_aload_n C d_Mod_write_0 0 rfl ?_
  refine xw_get C F_Mod_ok 0 rfl rfl 12 (by decide) T_485 rfl d_Mod_write_1 ?_
  refine xw_if_eq C d_Mod_write_4 (tgt := 36) (by decide) (fun hc192 => ?_) (fun hc192 => ?_)
  · replace h := it_t hc192 h
    refine xw_iconst C d_Mod_write_36 (v := 0) (by decide) ?_
    exact fin _ _ _ _ h d_Mod_write_37 rfl
  · replace h := it_f hc192 h
    refine xw_iload_n C d_Mod_write_7 1 rfl ?_
    obtain ⟨r3, s2, hc1, h⟩ := bd_e h
    refine xw_callS_i C tj_Tg tj_Ng (n := 1) (As := [.int a1]) (rest := []) (c_Mod_file hc1) T_532 T_530 T_6 T_531 (by decide +kernel) (by decide) rfl rfl (Nat.le_of_ble_eq_true rfl) d_Mod_write_8 ?_
    refine xw_if_eq C d_Mod_write_11 (tgt := 36) (by decide) (fun hc191 => ?_) (fun hc191 => ?_)
    · replace h := it_t hc191 h
      refine xw_iconst C d_Mod_write_36 (v := 0) (by decide) ?_
      exact fin _ _ _ _ h d_Mod_write_37 rfl
    · replace h := it_f hc191 h
      refine xw_iload_n C d_Mod_write_14 2 rfl ?_
      refine xw_if_lt C d_Mod_write_15 (tgt := 36) (by decide) (fun hc190 => ?_) (fun hc190 => ?_)
      · replace h := it_t hc190 h
        refine xw_iconst C d_Mod_write_36 (v := 0) (by decide) ?_
        exact fin _ _ _ _ h d_Mod_write_37 rfl
      · replace h := it_f hc190 h
        refine xw_iload_n C d_Mod_write_18 2 rfl ?_
        refine xw_bipush C d_Mod_write_19 (v := 23) (by decide) ?_
        refine xw_icmp_gt C d_Mod_write_21 (tgt := 36) (by decide) (fun hc189 => ?_) (fun hc189 => ?_)
        · replace h := it_t hc189 h
          refine xw_iconst C d_Mod_write_36 (v := 0) (by decide) ?_
          exact fin _ _ _ _ h d_Mod_write_37 rfl
        · replace h := it_f hc189 h
          refine xw_iload_n C d_Mod_write_24 2 rfl ?_
          refine xw_aload_n C d_Mod_write_25 0 rfl ?_
          refine xw_get C F_Mod_ok 0 rfl rfl 1 (by decide) T_474 rfl d_Mod_write_26 ?_
          refine xw_iconst C d_Mod_write_29 (v := 4) (by decide) ?_
          refine xw_iload_n C d_Mod_write_30 1 rfl ?_
          refine xw_imul C d_Mod_write_31 ?_
          obtain ⟨hb4, h⟩ := gd_e h
          refine xw_iald C 2 1 rfl rfl hb4 d_Mod_write_32 ?_
          refine xw_icmp_le C d_Mod_write_33 (tgt := 38) (by decide) (fun hc188 => ?_) (fun hc188 => ?_)
          · replace h := it_t hc188 h
            refine xw_iload_n C d_Mod_write_38 2 rfl ?_
            refine xw_aload_n C d_Mod_write_39 0 rfl ?_
            refine xw_get C F_Mod_ok 0 rfl rfl 1 (by decide) T_474 rfl d_Mod_write_40 ?_
            refine xw_iconst C d_Mod_write_43 (v := 4) (by decide) ?_
            refine xw_iload_n C d_Mod_write_44 1 rfl ?_
            refine xw_imul C d_Mod_write_45 ?_
            obtain ⟨hb5, h⟩ := gd_e h
            refine xw_iald C 2 1 rfl rfl hb5 d_Mod_write_46 ?_
            refine xw_icmp_ne C d_Mod_write_47 (tgt := 54) (by decide) (fun hc187 => ?_) (fun hc187 => ?_)
            · replace h := it_f hc187 h
              refine xw_iconst C d_Mod_write_54 (v := 0) (by decide) ?_
              refine xw_istore C d_Mod_write_55 (by decide) (lv1 := [(4, .int (0 : Int32)), (0, .ref (q 0)), (1, .int a1), (2, .int a2), (3, .int a3)]) rfl ?_
              refine xw_iload C d_Mod_write_57 0 rfl ?_
              refine xw_if_eq C d_Mod_write_59 (tgt := 68) (by decide) (fun _ => ?_) (fun hc => absurd hc (by decide))
              refine xw_iconst C d_Mod_write_68 (v := 0) (by decide) ?_
              refine xw_goto C d_Mod_write_69 (tgt := 83) (by decide) ?_
              refine xw_istore C d_Mod_write_83 (by decide) (lv1 := [(5, .int (0 : Int32)), (4, .int (0 : Int32)), (0, .ref (q 0)), (1, .int a1), (2, .int a2), (3, .int a3)]) rfl ?_
              refine xw_aload_n C d_Mod_write_85 2 rfl ?_
              obtain ⟨r8, s7, hc6, h⟩ := bd_e h
              refine xw_callV_i C tj_Tg tj_Ng (n := 0) (As := []) (rest := []) (c_Mod_opens hc6) T_536 T_533 T_6 T_535 S_18 0 rfl rfl rfl (by decide +kernel) (by decide) rfl rfl (Nat.le_of_ble_eq_true rfl) d_Mod_write_86 ?_
              refine xw_iload C d_Mod_write_89 0 rfl ?_
              refine xw_icmp_lt C d_Mod_write_91 (tgt := 101) (by decide) (fun hc30 => ?_) (fun hc30 => ?_)
              · replace h := it_t hc30 h
                refine xw_iconst C d_Mod_write_101 (v := 0) (by decide) ?_
                exact fin _ _ _ _ h d_Mod_write_102 rfl
              · replace h := it_f hc30 h
                refine xw_aload_n C d_Mod_write_94 2 rfl ?_
                obtain ⟨r11, s10, hc9, h⟩ := bd_e h
                refine xw_callV_i C tj_Tg tj_Ng (n := 0) (As := []) (rest := []) (c_Mod_ready hc9) T_548 T_545 T_6 T_547 S_21 0 rfl rfl rfl (by decide +kernel) (by decide) rfl rfl (Nat.le_of_ble_eq_true rfl) d_Mod_write_95 ?_
                refine xw_if_ne C d_Mod_write_98 (tgt := 103) (by decide) (fun hc29 => ?_) (fun hc29 => ?_)
                · replace h := it_f hc29 h
                  refine xw_iload C d_Mod_write_103 0 rfl ?_
                  refine xw_iconst C d_Mod_write_105 (v := 2) (by decide) ?_
                  refine xw_icmp_ne C d_Mod_write_106 (tgt := 128) (by decide) (fun _ => ?_) (fun hc => absurd hc (by decide))
                  refine xw_iload C d_Mod_write_128 0 rfl ?_
                  refine xw_if_le C d_Mod_write_130 (tgt := 172) (by decide) (fun _ => ?_) (fun hc => absurd hc (by decide))
                  refine xw_iload C d_Mod_write_172 1 rfl ?_
                  refine xw_if_eq C d_Mod_write_174 (tgt := 195) (by decide) (fun _ => ?_) (fun hc => absurd hc (by decide))
                  refine xw_aload_n C d_Mod_write_195 2 rfl ?_
                  refine xw_get C F_Mod_ok 0 rfl rfl 1 (by decide) T_474 rfl d_Mod_write_196 ?_
                  refine xw_aload_n C d_Mod_write_199 2 rfl ?_
                  refine xw_iload_n C d_Mod_write_200 3 rfl ?_
                  refine xw_iload_n C d_Mod_write_201 4 rfl ?_
                  refine xw_iconst C d_Mod_write_202 (v := 4) (by decide) ?_
                  refine xw_idiv C d_Mod_write_203 (by decide) ?_
                  obtain ⟨r14, s13, hc12, h⟩ := bd_e h
                  refine xw_callV_i C tj_Tg tj_Ng (n := 2) (As := [.int a1, .int (a2 / (4 : Int32))]) (rest := [.ref (q 2)]) (c_Mod_cell hc12) T_608 T_605 T_6 T_607 S_36 0 rfl rfl rfl (by decide +kernel) (by decide) rfl rfl (Nat.le_of_ble_eq_true rfl) d_Mod_write_204 ?_
                  obtain ⟨hb15, h⟩ := gd_e h
                  refine xw_iald C 2 1 rfl rfl hb15 d_Mod_write_207 ?_
                  refine xw_ni h (fun x16 h => ?_)
                  refine xw_istore C d_Mod_write_208 (by decide) (lv1 := [(6, .int x16), (5, .int (0 : Int32)), (4, .int (0 : Int32)), (0, .ref (q 0)), (1, .int a1), (2, .int a2), (3, .int a3)]) rfl ?_
                  refine xw_aload_n C d_Mod_write_210 3 rfl ?_
                  refine xw_get C F_Mod_ok 0 rfl rfl 1 (by decide) T_474 rfl d_Mod_write_211 ?_
                  refine xw_iconst C d_Mod_write_214 (v := 4) (by decide) ?_
                  refine xw_iload C d_Mod_write_215 0 rfl ?_
                  refine xw_imul C d_Mod_write_217 ?_
                  refine xw_iload_n C d_Mod_write_218 5 rfl ?_
                  refine xw_iconst C d_Mod_write_219 (v := 4) (by decide) ?_
                  refine xw_irem C d_Mod_write_220 (by decide) ?_
                  refine xw_iadd C d_Mod_write_221 ?_
                  refine xw_iload_n C d_Mod_write_222 6 rfl ?_
                  obtain ⟨hb17, h⟩ := gd_e h
                  refine xw_iast C 2 1 rfl rfl hb17 d_Mod_write_223 (σ1 := (up2 s13 2 (Int32.toNatClampNeg (((4 : Int32) * x16) + (a2 - a2 / (4 : Int32) * (4 : Int32)))) a3)) rfl ?_
                  refine xw_ns h (fun s18 h => ?_)
                  refine xw_aload_n C d_Mod_write_224 3 rfl ?_
                  refine xw_get C F_Mod_ok 0 rfl rfl 13 (by decide) T_486 rfl d_Mod_write_225 ?_
                  refine xw_iconst C d_Mod_write_228 (v := 2) (by decide) ?_
                  refine xw_icmp_ne C d_Mod_write_229 (tgt := 243) (by decide) (fun hc28 => ?_) (fun hc28 => ?_)
                  · replace h := it_f hc28 h
                    refine xw_aload_n C d_Mod_write_243 3 rfl ?_
                    refine xw_iload C d_Mod_write_244 0 rfl ?_
                    obtain ⟨r21, s20, hc19, h⟩ := bd_e h
                    refine xw_callV_i C tj_Tg tj_Ng (n := 1) (As := [.int x16]) (rest := []) (c_Mod_isDirty hc19) T_612 T_609 T_6 T_611 S_37 0 rfl rfl rfl (by decide +kernel) (by decide) rfl rfl (Nat.le_of_ble_eq_true rfl) d_Mod_write_246 ?_
                    refine xw_if_ne C d_Mod_write_249 (tgt := 273) (by decide) (fun hc25 => ?_) (fun hc25 => ?_)
                    · replace h := it_f hc25 h
                      refine xw_iconst C d_Mod_write_273 (v := 1) (by decide) ?_
                      exact fin _ _ _ _ h d_Mod_write_274 rfl
                    · replace h := it_t hc25 h
                      refine xw_aload_n C d_Mod_write_252 3 rfl ?_
                      refine xw_get C F_Mod_ok 0 rfl rfl 4 (by decide) T_477 rfl d_Mod_write_253 ?_
                      refine xw_aload_n C d_Mod_write_256 3 rfl ?_
                      refine xw_get C F_Mod_ok 0 rfl rfl 5 (by decide) T_478 rfl d_Mod_write_257 ?_
                      refine xw_iload C d_Mod_write_260 0 rfl ?_
                      obtain ⟨hb22, h⟩ := gd_e h
                      refine xw_iast C 5 4 rfl rfl hb22 d_Mod_write_262 (σ1 := (up2 s20 5 (Int32.toNatClampNeg (s20 0 5)) x16)) rfl ?_
                      refine xw_ns h (fun s23 h => ?_)
                      refine xw_aload_n C d_Mod_write_263 3 rfl ?_
                      refine xw_dup C d_Mod_write_264 rfl ?_
                      refine xw_get C F_Mod_ok 0 rfl rfl 5 (by decide) T_478 rfl d_Mod_write_265 ?_
                      refine xw_iconst C d_Mod_write_268 (v := 1) (by decide) ?_
                      refine xw_iadd C d_Mod_write_269 ?_
                      refine xw_put C F_Mod_ok 0 rfl rfl 5 (by decide) T_478 rfl rfl rfl (Nat.le_of_ble_eq_true rfl) d_Mod_write_270 (σ1 := (up2 s23 0 5 ((s23 0 5) + (1 : Int32)))) rfl ?_
                      refine xw_ns h (fun s24 h => ?_)
                      refine xw_iconst C d_Mod_write_273 (v := 1) (by decide) ?_
                      exact fin _ _ _ _ h d_Mod_write_274 rfl
                  · replace h := it_t hc28 h
                    refine xw_aload_n C d_Mod_write_232 3 rfl ?_
                    refine xw_get C F_Mod_ok 0 rfl rfl 2 (by decide) T_475 rfl d_Mod_write_233 ?_
                    refine xw_iload C d_Mod_write_236 0 rfl ?_
                    refine xw_iconst C d_Mod_write_238 (v := 1) (by decide) ?_
                    obtain ⟨hb26, h⟩ := gd_e h
                    refine xw_zast C 3 2 rfl rfl hb26 d_Mod_write_239 (σ1 := (up2 s18 3 (Int32.toNatClampNeg x16) (vp_nar .boolean (1 : Int32)))) rfl ?_
                    refine xw_ns h (fun s27 h => ?_)
                    refine xw_goto C d_Mod_write_240 (tgt := 273) (by decide) ?_
                    refine xw_iconst C d_Mod_write_273 (v := 1) (by decide) ?_
                    exact fin _ _ _ _ h d_Mod_write_274 rfl
                · replace h := it_t hc29 h
                  refine xw_iconst C d_Mod_write_101 (v := 0) (by decide) ?_
                  exact fin _ _ _ _ h d_Mod_write_102 rfl
            · replace h := it_t hc187 h
              refine xw_iconst C d_Mod_write_50 (v := 1) (by decide) ?_
              refine xw_goto C d_Mod_write_51 (tgt := 55) (by decide) ?_
              refine xw_istore C d_Mod_write_55 (by decide) (lv1 := [(4, .int (1 : Int32)), (0, .ref (q 0)), (1, .int a1), (2, .int a2), (3, .int a3)]) rfl ?_
              refine xw_iload C d_Mod_write_57 0 rfl ?_
              refine xw_if_eq C d_Mod_write_59 (tgt := 68) (by decide) (fun hc => absurd hc (by decide)) (fun _ => ?_)
              refine xw_iload_n C d_Mod_write_62 3 rfl ?_
              refine xw_iconst C d_Mod_write_63 (v := 4) (by decide) ?_
              refine xw_irem C d_Mod_write_64 (by decide) ?_
              refine xw_if_le C d_Mod_write_65 (tgt := 72) (by decide) (fun hc186 => ?_) (fun hc186 => ?_)
              · replace h := it_t hc186 h
                refine xw_iload_n C d_Mod_write_72 3 rfl ?_
                refine xw_bipush C d_Mod_write_73 (v := 8) (by decide) ?_
                refine xw_icmp_ne C d_Mod_write_75 (tgt := 82) (by decide) (fun hc156 => ?_) (fun hc156 => ?_)
                · replace h := it_f hc156 h
                  refine xw_iconst C d_Mod_write_82 (v := 1) (by decide) ?_
                  refine xw_istore C d_Mod_write_83 (by decide) (lv1 := [(5, .int (1 : Int32)), (4, .int (1 : Int32)), (0, .ref (q 0)), (1, .int a1), (2, .int a2), (3, .int a3)]) rfl ?_
                  refine xw_aload_n C d_Mod_write_85 2 rfl ?_
                  obtain ⟨r33, s32, hc31, h⟩ := bd_e h
                  refine xw_callV_i C tj_Tg tj_Ng (n := 0) (As := []) (rest := []) (c_Mod_opens hc31) T_536 T_533 T_6 T_535 S_18 0 rfl rfl rfl (by decide +kernel) (by decide) rfl rfl (Nat.le_of_ble_eq_true rfl) d_Mod_write_86 ?_
                  refine xw_iload C d_Mod_write_89 0 rfl ?_
                  refine xw_icmp_lt C d_Mod_write_91 (tgt := 101) (by decide) (fun hc90 => ?_) (fun hc90 => ?_)
                  · replace h := it_t hc90 h
                    refine xw_iconst C d_Mod_write_101 (v := 0) (by decide) ?_
                    exact fin _ _ _ _ h d_Mod_write_102 rfl
                  · replace h := it_f hc90 h
                    refine xw_aload_n C d_Mod_write_94 2 rfl ?_
                    obtain ⟨r36, s35, hc34, h⟩ := bd_e h
                    refine xw_callV_i C tj_Tg tj_Ng (n := 0) (As := []) (rest := []) (c_Mod_ready hc34) T_548 T_545 T_6 T_547 S_21 0 rfl rfl rfl (by decide +kernel) (by decide) rfl rfl (Nat.le_of_ble_eq_true rfl) d_Mod_write_95 ?_
                    refine xw_if_ne C d_Mod_write_98 (tgt := 103) (by decide) (fun hc89 => ?_) (fun hc89 => ?_)
                    · replace h := it_f hc89 h
                      refine xw_iload C d_Mod_write_103 0 rfl ?_
                      refine xw_iconst C d_Mod_write_105 (v := 2) (by decide) ?_
                      refine xw_icmp_ne C d_Mod_write_106 (tgt := 128) (by decide) (fun _ => ?_) (fun hc => absurd hc (by decide))
                      refine xw_iload C d_Mod_write_128 0 rfl ?_
                      refine xw_if_le C d_Mod_write_130 (tgt := 172) (by decide) (fun hc => absurd hc (by decide)) (fun _ => ?_)
                      refine xw_aload_n C d_Mod_write_133 2 rfl ?_
                      refine xw_iload_n C d_Mod_write_134 3 rfl ?_
                      refine xw_iload_n C d_Mod_write_135 4 rfl ?_
                      refine xw_iconst C d_Mod_write_136 (v := 4) (by decide) ?_
                      refine xw_idiv C d_Mod_write_137 (by decide) ?_
                      obtain ⟨r39, s38, hc37, h⟩ := bd_e h
                      refine xw_callV_i C tj_Tg tj_Ng (n := 2) (As := [.int a1, .int (a2 / (4 : Int32))]) (rest := []) (c_Mod_cell hc37) T_608 T_605 T_6 T_607 S_36 0 rfl rfl rfl (by decide +kernel) (by decide) rfl rfl (Nat.le_of_ble_eq_true rfl) d_Mod_write_138 ?_
                      refine xw_istore C d_Mod_write_141 (by decide) (lv1 := [(6, .int r39), (5, .int (1 : Int32)), (4, .int (1 : Int32)), (0, .ref (q 0)), (1, .int a1), (2, .int a2), (3, .int a3)]) rfl ?_
                      refine xw_aload_n C d_Mod_write_143 3 rfl ?_
                      refine xw_iload C d_Mod_write_144 0 rfl ?_
                      obtain ⟨r42, s41, hc40, h⟩ := bd_e h
                      refine xw_callV_i C tj_Tg tj_Ng (n := 1) (As := [.int r39]) (rest := []) (c_Mod_take hc40) T_600 T_597 T_6 T_599 S_34 0 rfl rfl rfl (by decide +kernel) (by decide) rfl rfl (Nat.le_of_ble_eq_true rfl) d_Mod_write_146 ?_
                      refine xw_pop C d_Mod_write_149 rfl ?_
                      refine xw_iload_n C d_Mod_write_150 5 rfl ?_
                      refine xw_bipush C d_Mod_write_151 (v := 7) (by decide) ?_
                      refine xw_icmp_le C d_Mod_write_153 (tgt := 172) (by decide) (fun hc88 => ?_) (fun hc88 => ?_)
                      · replace h := it_t hc88 h
                        refine xw_iload C d_Mod_write_172 2 rfl ?_
                        refine xw_if_eq C d_Mod_write_174 (tgt := 195) (by decide) (fun hc => absurd hc (by decide)) (fun _ => ?_)
                        refine xw_aload_n C d_Mod_write_177 3 rfl ?_
                        refine xw_get C F_Mod_ok 0 rfl rfl 1 (by decide) T_474 rfl d_Mod_write_178 ?_
                        refine xw_iconst C d_Mod_write_181 (v := 4) (by decide) ?_
                        refine xw_iload_n C d_Mod_write_182 4 rfl ?_
                        refine xw_imul C d_Mod_write_183 ?_
                        refine xw_iload_n C d_Mod_write_184 5 rfl ?_
                        refine xw_iconst C d_Mod_write_185 (v := 1) (by decide) ?_
                        refine xw_iadd C d_Mod_write_186 ?_
                        obtain ⟨hb43, h⟩ := gd_e h
                        refine xw_iast C 2 1 rfl rfl hb43 d_Mod_write_187 (σ1 := (up2 s41 2 (Int32.toNatClampNeg ((4 : Int32) * a1)) (a2 + (1 : Int32)))) rfl ?_
                        refine xw_ns h (fun s44 h => ?_)
                        refine xw_aload_n C d_Mod_write_188 3 rfl ?_
                        refine xw_get C F_Mod_ok 0 rfl rfl 2 (by decide) T_475 rfl d_Mod_write_189 ?_
                        refine xw_iload_n C d_Mod_write_192 4 rfl ?_
                        refine xw_iconst C d_Mod_write_193 (v := 1) (by decide) ?_
                        obtain ⟨hb45, h⟩ := gd_e h
                        refine xw_zast C 3 2 rfl rfl hb45 d_Mod_write_194 (σ1 := (up2 s44 3 (Int32.toNatClampNeg a1) (vp_nar .boolean (1 : Int32)))) rfl ?_
                        refine xw_ns h (fun s46 h => ?_)
                        refine xw_aload_n C d_Mod_write_195 3 rfl ?_
                        refine xw_get C F_Mod_ok 0 rfl rfl 1 (by decide) T_474 rfl d_Mod_write_196 ?_
                        refine xw_aload_n C d_Mod_write_199 3 rfl ?_
                        refine xw_iload_n C d_Mod_write_200 4 rfl ?_
                        refine xw_iload_n C d_Mod_write_201 5 rfl ?_
                        refine xw_iconst C d_Mod_write_202 (v := 4) (by decide) ?_
                        refine xw_idiv C d_Mod_write_203 (by decide) ?_
                        obtain ⟨r49, s48, hc47, h⟩ := bd_e h
                        refine xw_callV_i C tj_Tg tj_Ng (n := 2) (As := [.int a1, .int (a2 / (4 : Int32))]) (rest := [.ref (q 2)]) (c_Mod_cell hc47) T_608 T_605 T_6 T_607 S_36 0 rfl rfl rfl (by decide +kernel) (by decide) rfl rfl (Nat.le_of_ble_eq_true rfl) d_Mod_write_204 ?_
                        obtain ⟨hb50, h⟩ := gd_e h
                        refine xw_iald C 2 1 rfl rfl hb50 d_Mod_write_207 ?_
                        refine xw_ni h (fun x51 h => ?_)
                        refine xw_istore C d_Mod_write_208 (by decide) (lv1 := [(6, .int x51), (5, .int (1 : Int32)), (4, .int (1 : Int32)), (0, .ref (q 0)), (1, .int a1), (2, .int a2), (3, .int a3)]) rfl ?_
                        refine xw_aload_n C d_Mod_write_210 3 rfl ?_
                        refine xw_get C F_Mod_ok 0 rfl rfl 1 (by decide) T_474 rfl d_Mod_write_211 ?_
                        refine xw_iconst C d_Mod_write_214 (v := 4) (by decide) ?_
                        refine xw_iload C d_Mod_write_215 0 rfl ?_
                        refine xw_imul C d_Mod_write_217 ?_
                        refine xw_iload_n C d_Mod_write_218 5 rfl ?_
                        refine xw_iconst C d_Mod_write_219 (v := 4) (by decide) ?_
                        refine xw_irem C d_Mod_write_220 (by decide) ?_
                        refine xw_iadd C d_Mod_write_221 ?_
                        refine xw_iload_n C d_Mod_write_222 6 rfl ?_
                        obtain ⟨hb52, h⟩ := gd_e h
                        refine xw_iast C 2 1 rfl rfl hb52 d_Mod_write_223 (σ1 := (up2 s48 2 (Int32.toNatClampNeg (((4 : Int32) * x51) + (a2 - a2 / (4 : Int32) * (4 : Int32)))) a3)) rfl ?_
                        refine xw_ns h (fun s53 h => ?_)
                        refine xw_aload_n C d_Mod_write_224 3 rfl ?_
                        refine xw_get C F_Mod_ok 0 rfl rfl 13 (by decide) T_486 rfl d_Mod_write_225 ?_
                        refine xw_iconst C d_Mod_write_228 (v := 2) (by decide) ?_
                        refine xw_icmp_ne C d_Mod_write_229 (tgt := 243) (by decide) (fun hc63 => ?_) (fun hc63 => ?_)
                        · replace h := it_f hc63 h
                          refine xw_aload_n C d_Mod_write_243 3 rfl ?_
                          refine xw_iload C d_Mod_write_244 0 rfl ?_
                          obtain ⟨r56, s55, hc54, h⟩ := bd_e h
                          refine xw_callV_i C tj_Tg tj_Ng (n := 1) (As := [.int x51]) (rest := []) (c_Mod_isDirty hc54) T_612 T_609 T_6 T_611 S_37 0 rfl rfl rfl (by decide +kernel) (by decide) rfl rfl (Nat.le_of_ble_eq_true rfl) d_Mod_write_246 ?_
                          refine xw_if_ne C d_Mod_write_249 (tgt := 273) (by decide) (fun hc60 => ?_) (fun hc60 => ?_)
                          · replace h := it_f hc60 h
                            refine xw_iconst C d_Mod_write_273 (v := 1) (by decide) ?_
                            exact fin _ _ _ _ h d_Mod_write_274 rfl
                          · replace h := it_t hc60 h
                            refine xw_aload_n C d_Mod_write_252 3 rfl ?_
                            refine xw_get C F_Mod_ok 0 rfl rfl 4 (by decide) T_477 rfl d_Mod_write_253 ?_
                            refine xw_aload_n C d_Mod_write_256 3 rfl ?_
                            refine xw_get C F_Mod_ok 0 rfl rfl 5 (by decide) T_478 rfl d_Mod_write_257 ?_
                            refine xw_iload C d_Mod_write_260 0 rfl ?_
                            obtain ⟨hb57, h⟩ := gd_e h
                            refine xw_iast C 5 4 rfl rfl hb57 d_Mod_write_262 (σ1 := (up2 s55 5 (Int32.toNatClampNeg (s55 0 5)) x51)) rfl ?_
                            refine xw_ns h (fun s58 h => ?_)
                            refine xw_aload_n C d_Mod_write_263 3 rfl ?_
                            refine xw_dup C d_Mod_write_264 rfl ?_
                            refine xw_get C F_Mod_ok 0 rfl rfl 5 (by decide) T_478 rfl d_Mod_write_265 ?_
                            refine xw_iconst C d_Mod_write_268 (v := 1) (by decide) ?_
                            refine xw_iadd C d_Mod_write_269 ?_
                            refine xw_put C F_Mod_ok 0 rfl rfl 5 (by decide) T_478 rfl rfl rfl (Nat.le_of_ble_eq_true rfl) d_Mod_write_270 (σ1 := (up2 s58 0 5 ((s58 0 5) + (1 : Int32)))) rfl ?_
                            refine xw_ns h (fun s59 h => ?_)
                            refine xw_iconst C d_Mod_write_273 (v := 1) (by decide) ?_
                            exact fin _ _ _ _ h d_Mod_write_274 rfl
                        · replace h := it_t hc63 h
                          refine xw_aload_n C d_Mod_write_232 3 rfl ?_
                          refine xw_get C F_Mod_ok 0 rfl rfl 2 (by decide) T_475 rfl d_Mod_write_233 ?_
                          refine xw_iload C d_Mod_write_236 0 rfl ?_
                          refine xw_iconst C d_Mod_write_238 (v := 1) (by decide) ?_
                          obtain ⟨hb61, h⟩ := gd_e h
                          refine xw_zast C 3 2 rfl rfl hb61 d_Mod_write_239 (σ1 := (up2 s53 3 (Int32.toNatClampNeg x51) (vp_nar .boolean (1 : Int32)))) rfl ?_
                          refine xw_ns h (fun s62 h => ?_)
                          refine xw_goto C d_Mod_write_240 (tgt := 273) (by decide) ?_
                          refine xw_iconst C d_Mod_write_273 (v := 1) (by decide) ?_
                          exact fin _ _ _ _ h d_Mod_write_274 rfl
                      · replace h := it_f hc88 h
                        refine xw_aload_n C d_Mod_write_156 3 rfl ?_
                        refine xw_get C F_Mod_ok 0 rfl rfl 2 (by decide) T_475 rfl d_Mod_write_157 ?_
                        refine xw_aload_n C d_Mod_write_160 3 rfl ?_
                        refine xw_get C F_Mod_ok 0 rfl rfl 1 (by decide) T_474 rfl d_Mod_write_161 ?_
                        refine xw_iconst C d_Mod_write_164 (v := 4) (by decide) ?_
                        refine xw_iload_n C d_Mod_write_165 4 rfl ?_
                        refine xw_imul C d_Mod_write_166 ?_
                        refine xw_iconst C d_Mod_write_167 (v := 3) (by decide) ?_
                        refine xw_iadd C d_Mod_write_168 ?_
                        obtain ⟨hb64, h⟩ := gd_e h
                        refine xw_iald C 2 1 rfl rfl hb64 d_Mod_write_169 ?_
                        refine xw_iconst C d_Mod_write_170 (v := 1) (by decide) ?_
                        obtain ⟨hb65, h⟩ := gd_e h
                        refine xw_zast C 3 2 rfl rfl hb65 d_Mod_write_171 (σ1 := (up2 s41 3 (Int32.toNatClampNeg (s41 2 (Int32.toNatClampNeg (((4 : Int32) * a1) + (3 : Int32))))) (vp_nar .boolean (1 : Int32)))) rfl ?_
                        refine xw_ns h (fun s66 h => ?_)
                        refine xw_iload C d_Mod_write_172 2 rfl ?_
                        refine xw_if_eq C d_Mod_write_174 (tgt := 195) (by decide) (fun hc => absurd hc (by decide)) (fun _ => ?_)
                        refine xw_aload_n C d_Mod_write_177 3 rfl ?_
                        refine xw_get C F_Mod_ok 0 rfl rfl 1 (by decide) T_474 rfl d_Mod_write_178 ?_
                        refine xw_iconst C d_Mod_write_181 (v := 4) (by decide) ?_
                        refine xw_iload_n C d_Mod_write_182 4 rfl ?_
                        refine xw_imul C d_Mod_write_183 ?_
                        refine xw_iload_n C d_Mod_write_184 5 rfl ?_
                        refine xw_iconst C d_Mod_write_185 (v := 1) (by decide) ?_
                        refine xw_iadd C d_Mod_write_186 ?_
                        obtain ⟨hb67, h⟩ := gd_e h
                        refine xw_iast C 2 1 rfl rfl hb67 d_Mod_write_187 (σ1 := (up2 s66 2 (Int32.toNatClampNeg ((4 : Int32) * a1)) (a2 + (1 : Int32)))) rfl ?_
                        refine xw_ns h (fun s68 h => ?_)
                        refine xw_aload_n C d_Mod_write_188 3 rfl ?_
                        refine xw_get C F_Mod_ok 0 rfl rfl 2 (by decide) T_475 rfl d_Mod_write_189 ?_
                        refine xw_iload_n C d_Mod_write_192 4 rfl ?_
                        refine xw_iconst C d_Mod_write_193 (v := 1) (by decide) ?_
                        obtain ⟨hb69, h⟩ := gd_e h
                        refine xw_zast C 3 2 rfl rfl hb69 d_Mod_write_194 (σ1 := (up2 s68 3 (Int32.toNatClampNeg a1) (vp_nar .boolean (1 : Int32)))) rfl ?_
                        refine xw_ns h (fun s70 h => ?_)
                        refine xw_aload_n C d_Mod_write_195 3 rfl ?_
                        refine xw_get C F_Mod_ok 0 rfl rfl 1 (by decide) T_474 rfl d_Mod_write_196 ?_
                        refine xw_aload_n C d_Mod_write_199 3 rfl ?_
                        refine xw_iload_n C d_Mod_write_200 4 rfl ?_
                        refine xw_iload_n C d_Mod_write_201 5 rfl ?_
                        refine xw_iconst C d_Mod_write_202 (v := 4) (by decide) ?_
                        refine xw_idiv C d_Mod_write_203 (by decide) ?_
                        obtain ⟨r73, s72, hc71, h⟩ := bd_e h
                        refine xw_callV_i C tj_Tg tj_Ng (n := 2) (As := [.int a1, .int (a2 / (4 : Int32))]) (rest := [.ref (q 2)]) (c_Mod_cell hc71) T_608 T_605 T_6 T_607 S_36 0 rfl rfl rfl (by decide +kernel) (by decide) rfl rfl (Nat.le_of_ble_eq_true rfl) d_Mod_write_204 ?_
                        obtain ⟨hb74, h⟩ := gd_e h
                        refine xw_iald C 2 1 rfl rfl hb74 d_Mod_write_207 ?_
                        refine xw_ni h (fun x75 h => ?_)
                        refine xw_istore C d_Mod_write_208 (by decide) (lv1 := [(6, .int x75), (5, .int (1 : Int32)), (4, .int (1 : Int32)), (0, .ref (q 0)), (1, .int a1), (2, .int a2), (3, .int a3)]) rfl ?_
                        refine xw_aload_n C d_Mod_write_210 3 rfl ?_
                        refine xw_get C F_Mod_ok 0 rfl rfl 1 (by decide) T_474 rfl d_Mod_write_211 ?_
                        refine xw_iconst C d_Mod_write_214 (v := 4) (by decide) ?_
                        refine xw_iload C d_Mod_write_215 0 rfl ?_
                        refine xw_imul C d_Mod_write_217 ?_
                        refine xw_iload_n C d_Mod_write_218 5 rfl ?_
                        refine xw_iconst C d_Mod_write_219 (v := 4) (by decide) ?_
                        refine xw_irem C d_Mod_write_220 (by decide) ?_
                        refine xw_iadd C d_Mod_write_221 ?_
                        refine xw_iload_n C d_Mod_write_222 6 rfl ?_
                        obtain ⟨hb76, h⟩ := gd_e h
                        refine xw_iast C 2 1 rfl rfl hb76 d_Mod_write_223 (σ1 := (up2 s72 2 (Int32.toNatClampNeg (((4 : Int32) * x75) + (a2 - a2 / (4 : Int32) * (4 : Int32)))) a3)) rfl ?_
                        refine xw_ns h (fun s77 h => ?_)
                        refine xw_aload_n C d_Mod_write_224 3 rfl ?_
                        refine xw_get C F_Mod_ok 0 rfl rfl 13 (by decide) T_486 rfl d_Mod_write_225 ?_
                        refine xw_iconst C d_Mod_write_228 (v := 2) (by decide) ?_
                        refine xw_icmp_ne C d_Mod_write_229 (tgt := 243) (by decide) (fun hc87 => ?_) (fun hc87 => ?_)
                        · replace h := it_f hc87 h
                          refine xw_aload_n C d_Mod_write_243 3 rfl ?_
                          refine xw_iload C d_Mod_write_244 0 rfl ?_
                          obtain ⟨r80, s79, hc78, h⟩ := bd_e h
                          refine xw_callV_i C tj_Tg tj_Ng (n := 1) (As := [.int x75]) (rest := []) (c_Mod_isDirty hc78) T_612 T_609 T_6 T_611 S_37 0 rfl rfl rfl (by decide +kernel) (by decide) rfl rfl (Nat.le_of_ble_eq_true rfl) d_Mod_write_246 ?_
                          refine xw_if_ne C d_Mod_write_249 (tgt := 273) (by decide) (fun hc84 => ?_) (fun hc84 => ?_)
                          · replace h := it_f hc84 h
                            refine xw_iconst C d_Mod_write_273 (v := 1) (by decide) ?_
                            exact fin _ _ _ _ h d_Mod_write_274 rfl
                          · replace h := it_t hc84 h
                            refine xw_aload_n C d_Mod_write_252 3 rfl ?_
                            refine xw_get C F_Mod_ok 0 rfl rfl 4 (by decide) T_477 rfl d_Mod_write_253 ?_
                            refine xw_aload_n C d_Mod_write_256 3 rfl ?_
                            refine xw_get C F_Mod_ok 0 rfl rfl 5 (by decide) T_478 rfl d_Mod_write_257 ?_
                            refine xw_iload C d_Mod_write_260 0 rfl ?_
                            obtain ⟨hb81, h⟩ := gd_e h
                            refine xw_iast C 5 4 rfl rfl hb81 d_Mod_write_262 (σ1 := (up2 s79 5 (Int32.toNatClampNeg (s79 0 5)) x75)) rfl ?_
                            refine xw_ns h (fun s82 h => ?_)
                            refine xw_aload_n C d_Mod_write_263 3 rfl ?_
                            refine xw_dup C d_Mod_write_264 rfl ?_
                            refine xw_get C F_Mod_ok 0 rfl rfl 5 (by decide) T_478 rfl d_Mod_write_265 ?_
                            refine xw_iconst C d_Mod_write_268 (v := 1) (by decide) ?_
                            refine xw_iadd C d_Mod_write_269 ?_
                            refine xw_put C F_Mod_ok 0 rfl rfl 5 (by decide) T_478 rfl rfl rfl (Nat.le_of_ble_eq_true rfl) d_Mod_write_270 (σ1 := (up2 s82 0 5 ((s82 0 5) + (1 : Int32)))) rfl ?_
                            refine xw_ns h (fun s83 h => ?_)
                            refine xw_iconst C d_Mod_write_273 (v := 1) (by decide) ?_
                            exact fin _ _ _ _ h d_Mod_write_274 rfl
                        · replace h := it_t hc87 h
                          refine xw_aload_n C d_Mod_write_232 3 rfl ?_
                          refine xw_get C F_Mod_ok 0 rfl rfl 2 (by decide) T_475 rfl d_Mod_write_233 ?_
                          refine xw_iload C d_Mod_write_236 0 rfl ?_
                          refine xw_iconst C d_Mod_write_238 (v := 1) (by decide) ?_
                          obtain ⟨hb85, h⟩ := gd_e h
                          refine xw_zast C 3 2 rfl rfl hb85 d_Mod_write_239 (σ1 := (up2 s77 3 (Int32.toNatClampNeg x75) (vp_nar .boolean (1 : Int32)))) rfl ?_
                          refine xw_ns h (fun s86 h => ?_)
                          refine xw_goto C d_Mod_write_240 (tgt := 273) (by decide) ?_
                          refine xw_iconst C d_Mod_write_273 (v := 1) (by decide) ?_
                          exact fin _ _ _ _ h d_Mod_write_274 rfl
                    · replace h := it_t hc89 h
                      refine xw_iconst C d_Mod_write_101 (v := 0) (by decide) ?_
                      exact fin _ _ _ _ h d_Mod_write_102 rfl
                · replace h := it_t hc156 h
                  refine xw_iconst C d_Mod_write_78 (v := 2) (by decide) ?_
                  refine xw_goto C d_Mod_write_79 (tgt := 83) (by decide) ?_
                  refine xw_istore C d_Mod_write_83 (by decide) (lv1 := [(5, .int (2 : Int32)), (4, .int (1 : Int32)), (0, .ref (q 0)), (1, .int a1), (2, .int a2), (3, .int a3)]) rfl ?_
                  refine xw_aload_n C d_Mod_write_85 2 rfl ?_
                  obtain ⟨r93, s92, hc91, h⟩ := bd_e h
                  refine xw_callV_i C tj_Tg tj_Ng (n := 0) (As := []) (rest := []) (c_Mod_opens hc91) T_536 T_533 T_6 T_535 S_18 0 rfl rfl rfl (by decide +kernel) (by decide) rfl rfl (Nat.le_of_ble_eq_true rfl) d_Mod_write_86 ?_
                  refine xw_iload C d_Mod_write_89 0 rfl ?_
                  refine xw_icmp_lt C d_Mod_write_91 (tgt := 101) (by decide) (fun hc155 => ?_) (fun hc155 => ?_)
                  · replace h := it_t hc155 h
                    refine xw_iconst C d_Mod_write_101 (v := 0) (by decide) ?_
                    exact fin _ _ _ _ h d_Mod_write_102 rfl
                  · replace h := it_f hc155 h
                    refine xw_aload_n C d_Mod_write_94 2 rfl ?_
                    obtain ⟨r96, s95, hc94, h⟩ := bd_e h
                    refine xw_callV_i C tj_Tg tj_Ng (n := 0) (As := []) (rest := []) (c_Mod_ready hc94) T_548 T_545 T_6 T_547 S_21 0 rfl rfl rfl (by decide +kernel) (by decide) rfl rfl (Nat.le_of_ble_eq_true rfl) d_Mod_write_95 ?_
                    refine xw_if_ne C d_Mod_write_98 (tgt := 103) (by decide) (fun hc154 => ?_) (fun hc154 => ?_)
                    · replace h := it_f hc154 h
                      refine xw_iload C d_Mod_write_103 0 rfl ?_
                      refine xw_iconst C d_Mod_write_105 (v := 2) (by decide) ?_
                      refine xw_icmp_ne C d_Mod_write_106 (tgt := 128) (by decide) (fun hc => absurd hc (by decide)) (fun _ => ?_)
                      refine xw_aload_n C d_Mod_write_109 2 rfl ?_
                      refine xw_iconst C d_Mod_write_110 (v := 4) (by decide) ?_
                      refine xw_iload_n C d_Mod_write_111 3 rfl ?_
                      refine xw_imul C d_Mod_write_112 ?_
                      refine xw_iconst C d_Mod_write_113 (v := 3) (by decide) ?_
                      refine xw_iadd C d_Mod_write_114 ?_
                      obtain ⟨r99, s98, hc97, h⟩ := bd_e h
                      refine xw_callV_i C tj_Tg tj_Ng (n := 1) (As := [.int (((4 : Int32) * a1) + (3 : Int32))]) (rest := []) (c_Mod_take hc97) T_600 T_597 T_6 T_599 S_34 0 rfl rfl rfl (by decide +kernel) (by decide) rfl rfl (Nat.le_of_ble_eq_true rfl) d_Mod_write_115 ?_
                      refine xw_istore C d_Mod_write_118 (by decide) (lv1 := [(6, .int r99), (5, .int (2 : Int32)), (4, .int (1 : Int32)), (0, .ref (q 0)), (1, .int a1), (2, .int a2), (3, .int a3)]) rfl ?_
                      refine xw_aload_n C d_Mod_write_120 3 rfl ?_
                      refine xw_get C F_Mod_ok 0 rfl rfl 2 (by decide) T_475 rfl d_Mod_write_121 ?_
                      refine xw_iload C d_Mod_write_124 0 rfl ?_
                      refine xw_iconst C d_Mod_write_126 (v := 1) (by decide) ?_
                      obtain ⟨hb100, h⟩ := gd_e h
                      refine xw_zast C 3 2 rfl rfl hb100 d_Mod_write_127 (σ1 := (up2 s98 3 (Int32.toNatClampNeg r99) (vp_nar .boolean (1 : Int32)))) rfl ?_
                      refine xw_ns h (fun s101 h => ?_)
                      refine xw_iload C d_Mod_write_128 1 rfl ?_
                      refine xw_if_le C d_Mod_write_130 (tgt := 172) (by decide) (fun hc => absurd hc (by decide)) (fun _ => ?_)
                      refine xw_aload_n C d_Mod_write_133 3 rfl ?_
                      refine xw_iload_n C d_Mod_write_134 4 rfl ?_
                      refine xw_iload_n C d_Mod_write_135 5 rfl ?_
                      refine xw_iconst C d_Mod_write_136 (v := 4) (by decide) ?_
                      refine xw_idiv C d_Mod_write_137 (by decide) ?_
                      obtain ⟨r104, s103, hc102, h⟩ := bd_e h
                      refine xw_callV_i C tj_Tg tj_Ng (n := 2) (As := [.int a1, .int (a2 / (4 : Int32))]) (rest := []) (c_Mod_cell hc102) T_608 T_605 T_6 T_607 S_36 0 rfl rfl rfl (by decide +kernel) (by decide) rfl rfl (Nat.le_of_ble_eq_true rfl) d_Mod_write_138 ?_
                      refine xw_istore C d_Mod_write_141 (by decide) (lv1 := [(6, .int r104), (5, .int (2 : Int32)), (4, .int (1 : Int32)), (0, .ref (q 0)), (1, .int a1), (2, .int a2), (3, .int a3)]) rfl ?_
                      refine xw_aload_n C d_Mod_write_143 3 rfl ?_
                      refine xw_iload C d_Mod_write_144 0 rfl ?_
                      obtain ⟨r107, s106, hc105, h⟩ := bd_e h
                      refine xw_callV_i C tj_Tg tj_Ng (n := 1) (As := [.int r104]) (rest := []) (c_Mod_take hc105) T_600 T_597 T_6 T_599 S_34 0 rfl rfl rfl (by decide +kernel) (by decide) rfl rfl (Nat.le_of_ble_eq_true rfl) d_Mod_write_146 ?_
                      refine xw_pop C d_Mod_write_149 rfl ?_
                      refine xw_iload_n C d_Mod_write_150 5 rfl ?_
                      refine xw_bipush C d_Mod_write_151 (v := 7) (by decide) ?_
                      refine xw_icmp_le C d_Mod_write_153 (tgt := 172) (by decide) (fun hc153 => ?_) (fun hc153 => ?_)
                      · replace h := it_t hc153 h
                        refine xw_iload C d_Mod_write_172 2 rfl ?_
                        refine xw_if_eq C d_Mod_write_174 (tgt := 195) (by decide) (fun hc => absurd hc (by decide)) (fun _ => ?_)
                        refine xw_aload_n C d_Mod_write_177 3 rfl ?_
                        refine xw_get C F_Mod_ok 0 rfl rfl 1 (by decide) T_474 rfl d_Mod_write_178 ?_
                        refine xw_iconst C d_Mod_write_181 (v := 4) (by decide) ?_
                        refine xw_iload_n C d_Mod_write_182 4 rfl ?_
                        refine xw_imul C d_Mod_write_183 ?_
                        refine xw_iload_n C d_Mod_write_184 5 rfl ?_
                        refine xw_iconst C d_Mod_write_185 (v := 1) (by decide) ?_
                        refine xw_iadd C d_Mod_write_186 ?_
                        obtain ⟨hb108, h⟩ := gd_e h
                        refine xw_iast C 2 1 rfl rfl hb108 d_Mod_write_187 (σ1 := (up2 s106 2 (Int32.toNatClampNeg ((4 : Int32) * a1)) (a2 + (1 : Int32)))) rfl ?_
                        refine xw_ns h (fun s109 h => ?_)
                        refine xw_aload_n C d_Mod_write_188 3 rfl ?_
                        refine xw_get C F_Mod_ok 0 rfl rfl 2 (by decide) T_475 rfl d_Mod_write_189 ?_
                        refine xw_iload_n C d_Mod_write_192 4 rfl ?_
                        refine xw_iconst C d_Mod_write_193 (v := 1) (by decide) ?_
                        obtain ⟨hb110, h⟩ := gd_e h
                        refine xw_zast C 3 2 rfl rfl hb110 d_Mod_write_194 (σ1 := (up2 s109 3 (Int32.toNatClampNeg a1) (vp_nar .boolean (1 : Int32)))) rfl ?_
                        refine xw_ns h (fun s111 h => ?_)
                        refine xw_aload_n C d_Mod_write_195 3 rfl ?_
                        refine xw_get C F_Mod_ok 0 rfl rfl 1 (by decide) T_474 rfl d_Mod_write_196 ?_
                        refine xw_aload_n C d_Mod_write_199 3 rfl ?_
                        refine xw_iload_n C d_Mod_write_200 4 rfl ?_
                        refine xw_iload_n C d_Mod_write_201 5 rfl ?_
                        refine xw_iconst C d_Mod_write_202 (v := 4) (by decide) ?_
                        refine xw_idiv C d_Mod_write_203 (by decide) ?_
                        obtain ⟨r114, s113, hc112, h⟩ := bd_e h
                        refine xw_callV_i C tj_Tg tj_Ng (n := 2) (As := [.int a1, .int (a2 / (4 : Int32))]) (rest := [.ref (q 2)]) (c_Mod_cell hc112) T_608 T_605 T_6 T_607 S_36 0 rfl rfl rfl (by decide +kernel) (by decide) rfl rfl (Nat.le_of_ble_eq_true rfl) d_Mod_write_204 ?_
                        obtain ⟨hb115, h⟩ := gd_e h
                        refine xw_iald C 2 1 rfl rfl hb115 d_Mod_write_207 ?_
                        refine xw_ni h (fun x116 h => ?_)
                        refine xw_istore C d_Mod_write_208 (by decide) (lv1 := [(6, .int x116), (5, .int (2 : Int32)), (4, .int (1 : Int32)), (0, .ref (q 0)), (1, .int a1), (2, .int a2), (3, .int a3)]) rfl ?_
                        refine xw_aload_n C d_Mod_write_210 3 rfl ?_
                        refine xw_get C F_Mod_ok 0 rfl rfl 1 (by decide) T_474 rfl d_Mod_write_211 ?_
                        refine xw_iconst C d_Mod_write_214 (v := 4) (by decide) ?_
                        refine xw_iload C d_Mod_write_215 0 rfl ?_
                        refine xw_imul C d_Mod_write_217 ?_
                        refine xw_iload_n C d_Mod_write_218 5 rfl ?_
                        refine xw_iconst C d_Mod_write_219 (v := 4) (by decide) ?_
                        refine xw_irem C d_Mod_write_220 (by decide) ?_
                        refine xw_iadd C d_Mod_write_221 ?_
                        refine xw_iload_n C d_Mod_write_222 6 rfl ?_
                        obtain ⟨hb117, h⟩ := gd_e h
                        refine xw_iast C 2 1 rfl rfl hb117 d_Mod_write_223 (σ1 := (up2 s113 2 (Int32.toNatClampNeg (((4 : Int32) * x116) + (a2 - a2 / (4 : Int32) * (4 : Int32)))) a3)) rfl ?_
                        refine xw_ns h (fun s118 h => ?_)
                        refine xw_aload_n C d_Mod_write_224 3 rfl ?_
                        refine xw_get C F_Mod_ok 0 rfl rfl 13 (by decide) T_486 rfl d_Mod_write_225 ?_
                        refine xw_iconst C d_Mod_write_228 (v := 2) (by decide) ?_
                        refine xw_icmp_ne C d_Mod_write_229 (tgt := 243) (by decide) (fun hc128 => ?_) (fun hc128 => ?_)
                        · replace h := it_f hc128 h
                          refine xw_aload_n C d_Mod_write_243 3 rfl ?_
                          refine xw_iload C d_Mod_write_244 0 rfl ?_
                          obtain ⟨r121, s120, hc119, h⟩ := bd_e h
                          refine xw_callV_i C tj_Tg tj_Ng (n := 1) (As := [.int x116]) (rest := []) (c_Mod_isDirty hc119) T_612 T_609 T_6 T_611 S_37 0 rfl rfl rfl (by decide +kernel) (by decide) rfl rfl (Nat.le_of_ble_eq_true rfl) d_Mod_write_246 ?_
                          refine xw_if_ne C d_Mod_write_249 (tgt := 273) (by decide) (fun hc125 => ?_) (fun hc125 => ?_)
                          · replace h := it_f hc125 h
                            refine xw_iconst C d_Mod_write_273 (v := 1) (by decide) ?_
                            exact fin _ _ _ _ h d_Mod_write_274 rfl
                          · replace h := it_t hc125 h
                            refine xw_aload_n C d_Mod_write_252 3 rfl ?_
                            refine xw_get C F_Mod_ok 0 rfl rfl 4 (by decide) T_477 rfl d_Mod_write_253 ?_
                            refine xw_aload_n C d_Mod_write_256 3 rfl ?_
                            refine xw_get C F_Mod_ok 0 rfl rfl 5 (by decide) T_478 rfl d_Mod_write_257 ?_
                            refine xw_iload C d_Mod_write_260 0 rfl ?_
                            obtain ⟨hb122, h⟩ := gd_e h
                            refine xw_iast C 5 4 rfl rfl hb122 d_Mod_write_262 (σ1 := (up2 s120 5 (Int32.toNatClampNeg (s120 0 5)) x116)) rfl ?_
                            refine xw_ns h (fun s123 h => ?_)
                            refine xw_aload_n C d_Mod_write_263 3 rfl ?_
                            refine xw_dup C d_Mod_write_264 rfl ?_
                            refine xw_get C F_Mod_ok 0 rfl rfl 5 (by decide) T_478 rfl d_Mod_write_265 ?_
                            refine xw_iconst C d_Mod_write_268 (v := 1) (by decide) ?_
                            refine xw_iadd C d_Mod_write_269 ?_
                            refine xw_put C F_Mod_ok 0 rfl rfl 5 (by decide) T_478 rfl rfl rfl (Nat.le_of_ble_eq_true rfl) d_Mod_write_270 (σ1 := (up2 s123 0 5 ((s123 0 5) + (1 : Int32)))) rfl ?_
                            refine xw_ns h (fun s124 h => ?_)
                            refine xw_iconst C d_Mod_write_273 (v := 1) (by decide) ?_
                            exact fin _ _ _ _ h d_Mod_write_274 rfl
                        · replace h := it_t hc128 h
                          refine xw_aload_n C d_Mod_write_232 3 rfl ?_
                          refine xw_get C F_Mod_ok 0 rfl rfl 2 (by decide) T_475 rfl d_Mod_write_233 ?_
                          refine xw_iload C d_Mod_write_236 0 rfl ?_
                          refine xw_iconst C d_Mod_write_238 (v := 1) (by decide) ?_
                          obtain ⟨hb126, h⟩ := gd_e h
                          refine xw_zast C 3 2 rfl rfl hb126 d_Mod_write_239 (σ1 := (up2 s118 3 (Int32.toNatClampNeg x116) (vp_nar .boolean (1 : Int32)))) rfl ?_
                          refine xw_ns h (fun s127 h => ?_)
                          refine xw_goto C d_Mod_write_240 (tgt := 273) (by decide) ?_
                          refine xw_iconst C d_Mod_write_273 (v := 1) (by decide) ?_
                          exact fin _ _ _ _ h d_Mod_write_274 rfl
                      · replace h := it_f hc153 h
                        refine xw_aload_n C d_Mod_write_156 3 rfl ?_
                        refine xw_get C F_Mod_ok 0 rfl rfl 2 (by decide) T_475 rfl d_Mod_write_157 ?_
                        refine xw_aload_n C d_Mod_write_160 3 rfl ?_
                        refine xw_get C F_Mod_ok 0 rfl rfl 1 (by decide) T_474 rfl d_Mod_write_161 ?_
                        refine xw_iconst C d_Mod_write_164 (v := 4) (by decide) ?_
                        refine xw_iload_n C d_Mod_write_165 4 rfl ?_
                        refine xw_imul C d_Mod_write_166 ?_
                        refine xw_iconst C d_Mod_write_167 (v := 3) (by decide) ?_
                        refine xw_iadd C d_Mod_write_168 ?_
                        obtain ⟨hb129, h⟩ := gd_e h
                        refine xw_iald C 2 1 rfl rfl hb129 d_Mod_write_169 ?_
                        refine xw_iconst C d_Mod_write_170 (v := 1) (by decide) ?_
                        obtain ⟨hb130, h⟩ := gd_e h
                        refine xw_zast C 3 2 rfl rfl hb130 d_Mod_write_171 (σ1 := (up2 s106 3 (Int32.toNatClampNeg (s106 2 (Int32.toNatClampNeg (((4 : Int32) * a1) + (3 : Int32))))) (vp_nar .boolean (1 : Int32)))) rfl ?_
                        refine xw_ns h (fun s131 h => ?_)
                        refine xw_iload C d_Mod_write_172 2 rfl ?_
                        refine xw_if_eq C d_Mod_write_174 (tgt := 195) (by decide) (fun hc => absurd hc (by decide)) (fun _ => ?_)
                        refine xw_aload_n C d_Mod_write_177 3 rfl ?_
                        refine xw_get C F_Mod_ok 0 rfl rfl 1 (by decide) T_474 rfl d_Mod_write_178 ?_
                        refine xw_iconst C d_Mod_write_181 (v := 4) (by decide) ?_
                        refine xw_iload_n C d_Mod_write_182 4 rfl ?_
                        refine xw_imul C d_Mod_write_183 ?_
                        refine xw_iload_n C d_Mod_write_184 5 rfl ?_
                        refine xw_iconst C d_Mod_write_185 (v := 1) (by decide) ?_
                        refine xw_iadd C d_Mod_write_186 ?_
                        obtain ⟨hb132, h⟩ := gd_e h
                        refine xw_iast C 2 1 rfl rfl hb132 d_Mod_write_187 (σ1 := (up2 s131 2 (Int32.toNatClampNeg ((4 : Int32) * a1)) (a2 + (1 : Int32)))) rfl ?_
                        refine xw_ns h (fun s133 h => ?_)
                        refine xw_aload_n C d_Mod_write_188 3 rfl ?_
                        refine xw_get C F_Mod_ok 0 rfl rfl 2 (by decide) T_475 rfl d_Mod_write_189 ?_
                        refine xw_iload_n C d_Mod_write_192 4 rfl ?_
                        refine xw_iconst C d_Mod_write_193 (v := 1) (by decide) ?_
                        obtain ⟨hb134, h⟩ := gd_e h
                        refine xw_zast C 3 2 rfl rfl hb134 d_Mod_write_194 (σ1 := (up2 s133 3 (Int32.toNatClampNeg a1) (vp_nar .boolean (1 : Int32)))) rfl ?_
                        refine xw_ns h (fun s135 h => ?_)
                        refine xw_aload_n C d_Mod_write_195 3 rfl ?_
                        refine xw_get C F_Mod_ok 0 rfl rfl 1 (by decide) T_474 rfl d_Mod_write_196 ?_
                        refine xw_aload_n C d_Mod_write_199 3 rfl ?_
                        refine xw_iload_n C d_Mod_write_200 4 rfl ?_
                        refine xw_iload_n C d_Mod_write_201 5 rfl ?_
                        refine xw_iconst C d_Mod_write_202 (v := 4) (by decide) ?_
                        refine xw_idiv C d_Mod_write_203 (by decide) ?_
                        obtain ⟨r138, s137, hc136, h⟩ := bd_e h
                        refine xw_callV_i C tj_Tg tj_Ng (n := 2) (As := [.int a1, .int (a2 / (4 : Int32))]) (rest := [.ref (q 2)]) (c_Mod_cell hc136) T_608 T_605 T_6 T_607 S_36 0 rfl rfl rfl (by decide +kernel) (by decide) rfl rfl (Nat.le_of_ble_eq_true rfl) d_Mod_write_204 ?_
                        obtain ⟨hb139, h⟩ := gd_e h
                        refine xw_iald C 2 1 rfl rfl hb139 d_Mod_write_207 ?_
                        refine xw_ni h (fun x140 h => ?_)
                        refine xw_istore C d_Mod_write_208 (by decide) (lv1 := [(6, .int x140), (5, .int (2 : Int32)), (4, .int (1 : Int32)), (0, .ref (q 0)), (1, .int a1), (2, .int a2), (3, .int a3)]) rfl ?_
                        refine xw_aload_n C d_Mod_write_210 3 rfl ?_
                        refine xw_get C F_Mod_ok 0 rfl rfl 1 (by decide) T_474 rfl d_Mod_write_211 ?_
                        refine xw_iconst C d_Mod_write_214 (v := 4) (by decide) ?_
                        refine xw_iload C d_Mod_write_215 0 rfl ?_
                        refine xw_imul C d_Mod_write_217 ?_
                        refine xw_iload_n C d_Mod_write_218 5 rfl ?_
                        refine xw_iconst C d_Mod_write_219 (v := 4) (by decide) ?_
                        refine xw_irem C d_Mod_write_220 (by decide) ?_
                        refine xw_iadd C d_Mod_write_221 ?_
                        refine xw_iload_n C d_Mod_write_222 6 rfl ?_
                        obtain ⟨hb141, h⟩ := gd_e h
                        refine xw_iast C 2 1 rfl rfl hb141 d_Mod_write_223 (σ1 := (up2 s137 2 (Int32.toNatClampNeg (((4 : Int32) * x140) + (a2 - a2 / (4 : Int32) * (4 : Int32)))) a3)) rfl ?_
                        refine xw_ns h (fun s142 h => ?_)
                        refine xw_aload_n C d_Mod_write_224 3 rfl ?_
                        refine xw_get C F_Mod_ok 0 rfl rfl 13 (by decide) T_486 rfl d_Mod_write_225 ?_
                        refine xw_iconst C d_Mod_write_228 (v := 2) (by decide) ?_
                        refine xw_icmp_ne C d_Mod_write_229 (tgt := 243) (by decide) (fun hc152 => ?_) (fun hc152 => ?_)
                        · replace h := it_f hc152 h
                          refine xw_aload_n C d_Mod_write_243 3 rfl ?_
                          refine xw_iload C d_Mod_write_244 0 rfl ?_
                          obtain ⟨r145, s144, hc143, h⟩ := bd_e h
                          refine xw_callV_i C tj_Tg tj_Ng (n := 1) (As := [.int x140]) (rest := []) (c_Mod_isDirty hc143) T_612 T_609 T_6 T_611 S_37 0 rfl rfl rfl (by decide +kernel) (by decide) rfl rfl (Nat.le_of_ble_eq_true rfl) d_Mod_write_246 ?_
                          refine xw_if_ne C d_Mod_write_249 (tgt := 273) (by decide) (fun hc149 => ?_) (fun hc149 => ?_)
                          · replace h := it_f hc149 h
                            refine xw_iconst C d_Mod_write_273 (v := 1) (by decide) ?_
                            exact fin _ _ _ _ h d_Mod_write_274 rfl
                          · replace h := it_t hc149 h
                            refine xw_aload_n C d_Mod_write_252 3 rfl ?_
                            refine xw_get C F_Mod_ok 0 rfl rfl 4 (by decide) T_477 rfl d_Mod_write_253 ?_
                            refine xw_aload_n C d_Mod_write_256 3 rfl ?_
                            refine xw_get C F_Mod_ok 0 rfl rfl 5 (by decide) T_478 rfl d_Mod_write_257 ?_
                            refine xw_iload C d_Mod_write_260 0 rfl ?_
                            obtain ⟨hb146, h⟩ := gd_e h
                            refine xw_iast C 5 4 rfl rfl hb146 d_Mod_write_262 (σ1 := (up2 s144 5 (Int32.toNatClampNeg (s144 0 5)) x140)) rfl ?_
                            refine xw_ns h (fun s147 h => ?_)
                            refine xw_aload_n C d_Mod_write_263 3 rfl ?_
                            refine xw_dup C d_Mod_write_264 rfl ?_
                            refine xw_get C F_Mod_ok 0 rfl rfl 5 (by decide) T_478 rfl d_Mod_write_265 ?_
                            refine xw_iconst C d_Mod_write_268 (v := 1) (by decide) ?_
                            refine xw_iadd C d_Mod_write_269 ?_
                            refine xw_put C F_Mod_ok 0 rfl rfl 5 (by decide) T_478 rfl rfl rfl (Nat.le_of_ble_eq_true rfl) d_Mod_write_270 (σ1 := (up2 s147 0 5 ((s147 0 5) + (1 : Int32)))) rfl ?_
                            refine xw_ns h (fun s148 h => ?_)
                            refine xw_iconst C d_Mod_write_273 (v := 1) (by decide) ?_
                            exact fin _ _ _ _ h d_Mod_write_274 rfl
                        · replace h := it_t hc152 h
                          refine xw_aload_n C d_Mod_write_232 3 rfl ?_
                          refine xw_get C F_Mod_ok 0 rfl rfl 2 (by decide) T_475 rfl d_Mod_write_233 ?_
                          refine xw_iload C d_Mod_write_236 0 rfl ?_
                          refine xw_iconst C d_Mod_write_238 (v := 1) (by decide) ?_
                          obtain ⟨hb150, h⟩ := gd_e h
                          refine xw_zast C 3 2 rfl rfl hb150 d_Mod_write_239 (σ1 := (up2 s142 3 (Int32.toNatClampNeg x140) (vp_nar .boolean (1 : Int32)))) rfl ?_
                          refine xw_ns h (fun s151 h => ?_)
                          refine xw_goto C d_Mod_write_240 (tgt := 273) (by decide) ?_
                          refine xw_iconst C d_Mod_write_273 (v := 1) (by decide) ?_
                          exact fin _ _ _ _ h d_Mod_write_274 rfl
                    · replace h := it_t hc154 h
                      refine xw_iconst C d_Mod_write_101 (v := 0) (by decide) ?_
                      exact fin _ _ _ _ h d_Mod_write_102 rfl
              · replace h := it_f hc186 h
                refine xw_iconst C d_Mod_write_68 (v := 0) (by decide) ?_
                refine xw_goto C d_Mod_write_69 (tgt := 83) (by decide) ?_
                refine xw_istore C d_Mod_write_83 (by decide) (lv1 := [(5, .int (0 : Int32)), (4, .int (1 : Int32)), (0, .ref (q 0)), (1, .int a1), (2, .int a2), (3, .int a3)]) rfl ?_
                refine xw_aload_n C d_Mod_write_85 2 rfl ?_
                obtain ⟨r159, s158, hc157, h⟩ := bd_e h
                refine xw_callV_i C tj_Tg tj_Ng (n := 0) (As := []) (rest := []) (c_Mod_opens hc157) T_536 T_533 T_6 T_535 S_18 0 rfl rfl rfl (by decide +kernel) (by decide) rfl rfl (Nat.le_of_ble_eq_true rfl) d_Mod_write_86 ?_
                refine xw_iload C d_Mod_write_89 0 rfl ?_
                refine xw_icmp_lt C d_Mod_write_91 (tgt := 101) (by decide) (fun hc185 => ?_) (fun hc185 => ?_)
                · replace h := it_t hc185 h
                  refine xw_iconst C d_Mod_write_101 (v := 0) (by decide) ?_
                  exact fin _ _ _ _ h d_Mod_write_102 rfl
                · replace h := it_f hc185 h
                  refine xw_aload_n C d_Mod_write_94 2 rfl ?_
                  obtain ⟨r162, s161, hc160, h⟩ := bd_e h
                  refine xw_callV_i C tj_Tg tj_Ng (n := 0) (As := []) (rest := []) (c_Mod_ready hc160) T_548 T_545 T_6 T_547 S_21 0 rfl rfl rfl (by decide +kernel) (by decide) rfl rfl (Nat.le_of_ble_eq_true rfl) d_Mod_write_95 ?_
                  refine xw_if_ne C d_Mod_write_98 (tgt := 103) (by decide) (fun hc184 => ?_) (fun hc184 => ?_)
                  · replace h := it_f hc184 h
                    refine xw_iload C d_Mod_write_103 0 rfl ?_
                    refine xw_iconst C d_Mod_write_105 (v := 2) (by decide) ?_
                    refine xw_icmp_ne C d_Mod_write_106 (tgt := 128) (by decide) (fun _ => ?_) (fun hc => absurd hc (by decide))
                    refine xw_iload C d_Mod_write_128 0 rfl ?_
                    refine xw_if_le C d_Mod_write_130 (tgt := 172) (by decide) (fun _ => ?_) (fun hc => absurd hc (by decide))
                    refine xw_iload C d_Mod_write_172 1 rfl ?_
                    refine xw_if_eq C d_Mod_write_174 (tgt := 195) (by decide) (fun hc => absurd hc (by decide)) (fun _ => ?_)
                    refine xw_aload_n C d_Mod_write_177 2 rfl ?_
                    refine xw_get C F_Mod_ok 0 rfl rfl 1 (by decide) T_474 rfl d_Mod_write_178 ?_
                    refine xw_iconst C d_Mod_write_181 (v := 4) (by decide) ?_
                    refine xw_iload_n C d_Mod_write_182 3 rfl ?_
                    refine xw_imul C d_Mod_write_183 ?_
                    refine xw_iload_n C d_Mod_write_184 4 rfl ?_
                    refine xw_iconst C d_Mod_write_185 (v := 1) (by decide) ?_
                    refine xw_iadd C d_Mod_write_186 ?_
                    obtain ⟨hb163, h⟩ := gd_e h
                    refine xw_iast C 2 1 rfl rfl hb163 d_Mod_write_187 (σ1 := (up2 s161 2 (Int32.toNatClampNeg ((4 : Int32) * a1)) (a2 + (1 : Int32)))) rfl ?_
                    refine xw_ns h (fun s164 h => ?_)
                    refine xw_aload_n C d_Mod_write_188 2 rfl ?_
                    refine xw_get C F_Mod_ok 0 rfl rfl 2 (by decide) T_475 rfl d_Mod_write_189 ?_
                    refine xw_iload_n C d_Mod_write_192 3 rfl ?_
                    refine xw_iconst C d_Mod_write_193 (v := 1) (by decide) ?_
                    obtain ⟨hb165, h⟩ := gd_e h
                    refine xw_zast C 3 2 rfl rfl hb165 d_Mod_write_194 (σ1 := (up2 s164 3 (Int32.toNatClampNeg a1) (vp_nar .boolean (1 : Int32)))) rfl ?_
                    refine xw_ns h (fun s166 h => ?_)
                    refine xw_aload_n C d_Mod_write_195 2 rfl ?_
                    refine xw_get C F_Mod_ok 0 rfl rfl 1 (by decide) T_474 rfl d_Mod_write_196 ?_
                    refine xw_aload_n C d_Mod_write_199 2 rfl ?_
                    refine xw_iload_n C d_Mod_write_200 3 rfl ?_
                    refine xw_iload_n C d_Mod_write_201 4 rfl ?_
                    refine xw_iconst C d_Mod_write_202 (v := 4) (by decide) ?_
                    refine xw_idiv C d_Mod_write_203 (by decide) ?_
                    obtain ⟨r169, s168, hc167, h⟩ := bd_e h
                    refine xw_callV_i C tj_Tg tj_Ng (n := 2) (As := [.int a1, .int (a2 / (4 : Int32))]) (rest := [.ref (q 2)]) (c_Mod_cell hc167) T_608 T_605 T_6 T_607 S_36 0 rfl rfl rfl (by decide +kernel) (by decide) rfl rfl (Nat.le_of_ble_eq_true rfl) d_Mod_write_204 ?_
                    obtain ⟨hb170, h⟩ := gd_e h
                    refine xw_iald C 2 1 rfl rfl hb170 d_Mod_write_207 ?_
                    refine xw_ni h (fun x171 h => ?_)
                    refine xw_istore C d_Mod_write_208 (by decide) (lv1 := [(6, .int x171), (5, .int (0 : Int32)), (4, .int (1 : Int32)), (0, .ref (q 0)), (1, .int a1), (2, .int a2), (3, .int a3)]) rfl ?_
                    refine xw_aload_n C d_Mod_write_210 3 rfl ?_
                    refine xw_get C F_Mod_ok 0 rfl rfl 1 (by decide) T_474 rfl d_Mod_write_211 ?_
                    refine xw_iconst C d_Mod_write_214 (v := 4) (by decide) ?_
                    refine xw_iload C d_Mod_write_215 0 rfl ?_
                    refine xw_imul C d_Mod_write_217 ?_
                    refine xw_iload_n C d_Mod_write_218 5 rfl ?_
                    refine xw_iconst C d_Mod_write_219 (v := 4) (by decide) ?_
                    refine xw_irem C d_Mod_write_220 (by decide) ?_
                    refine xw_iadd C d_Mod_write_221 ?_
                    refine xw_iload_n C d_Mod_write_222 6 rfl ?_
                    obtain ⟨hb172, h⟩ := gd_e h
                    refine xw_iast C 2 1 rfl rfl hb172 d_Mod_write_223 (σ1 := (up2 s168 2 (Int32.toNatClampNeg (((4 : Int32) * x171) + (a2 - a2 / (4 : Int32) * (4 : Int32)))) a3)) rfl ?_
                    refine xw_ns h (fun s173 h => ?_)
                    refine xw_aload_n C d_Mod_write_224 3 rfl ?_
                    refine xw_get C F_Mod_ok 0 rfl rfl 13 (by decide) T_486 rfl d_Mod_write_225 ?_
                    refine xw_iconst C d_Mod_write_228 (v := 2) (by decide) ?_
                    refine xw_icmp_ne C d_Mod_write_229 (tgt := 243) (by decide) (fun hc183 => ?_) (fun hc183 => ?_)
                    · replace h := it_f hc183 h
                      refine xw_aload_n C d_Mod_write_243 3 rfl ?_
                      refine xw_iload C d_Mod_write_244 0 rfl ?_
                      obtain ⟨r176, s175, hc174, h⟩ := bd_e h
                      refine xw_callV_i C tj_Tg tj_Ng (n := 1) (As := [.int x171]) (rest := []) (c_Mod_isDirty hc174) T_612 T_609 T_6 T_611 S_37 0 rfl rfl rfl (by decide +kernel) (by decide) rfl rfl (Nat.le_of_ble_eq_true rfl) d_Mod_write_246 ?_
                      refine xw_if_ne C d_Mod_write_249 (tgt := 273) (by decide) (fun hc180 => ?_) (fun hc180 => ?_)
                      · replace h := it_f hc180 h
                        refine xw_iconst C d_Mod_write_273 (v := 1) (by decide) ?_
                        exact fin _ _ _ _ h d_Mod_write_274 rfl
                      · replace h := it_t hc180 h
                        refine xw_aload_n C d_Mod_write_252 3 rfl ?_
                        refine xw_get C F_Mod_ok 0 rfl rfl 4 (by decide) T_477 rfl d_Mod_write_253 ?_
                        refine xw_aload_n C d_Mod_write_256 3 rfl ?_
                        refine xw_get C F_Mod_ok 0 rfl rfl 5 (by decide) T_478 rfl d_Mod_write_257 ?_
                        refine xw_iload C d_Mod_write_260 0 rfl ?_
                        obtain ⟨hb177, h⟩ := gd_e h
                        refine xw_iast C 5 4 rfl rfl hb177 d_Mod_write_262 (σ1 := (up2 s175 5 (Int32.toNatClampNeg (s175 0 5)) x171)) rfl ?_
                        refine xw_ns h (fun s178 h => ?_)
                        refine xw_aload_n C d_Mod_write_263 3 rfl ?_
                        refine xw_dup C d_Mod_write_264 rfl ?_
                        refine xw_get C F_Mod_ok 0 rfl rfl 5 (by decide) T_478 rfl d_Mod_write_265 ?_
                        refine xw_iconst C d_Mod_write_268 (v := 1) (by decide) ?_
                        refine xw_iadd C d_Mod_write_269 ?_
                        refine xw_put C F_Mod_ok 0 rfl rfl 5 (by decide) T_478 rfl rfl rfl (Nat.le_of_ble_eq_true rfl) d_Mod_write_270 (σ1 := (up2 s178 0 5 ((s178 0 5) + (1 : Int32)))) rfl ?_
                        refine xw_ns h (fun s179 h => ?_)
                        refine xw_iconst C d_Mod_write_273 (v := 1) (by decide) ?_
                        exact fin _ _ _ _ h d_Mod_write_274 rfl
                    · replace h := it_t hc183 h
                      refine xw_aload_n C d_Mod_write_232 3 rfl ?_
                      refine xw_get C F_Mod_ok 0 rfl rfl 2 (by decide) T_475 rfl d_Mod_write_233 ?_
                      refine xw_iload C d_Mod_write_236 0 rfl ?_
                      refine xw_iconst C d_Mod_write_238 (v := 1) (by decide) ?_
                      obtain ⟨hb181, h⟩ := gd_e h
                      refine xw_zast C 3 2 rfl rfl hb181 d_Mod_write_239 (σ1 := (up2 s173 3 (Int32.toNatClampNeg x171) (vp_nar .boolean (1 : Int32)))) rfl ?_
                      refine xw_ns h (fun s182 h => ?_)
                      refine xw_goto C d_Mod_write_240 (tgt := 273) (by decide) ?_
                      refine xw_iconst C d_Mod_write_273 (v := 1) (by decide) ?_
                      exact fin _ _ _ _ h d_Mod_write_274 rfl
                  · replace h := it_t hc184 h
                    refine xw_iconst C d_Mod_write_101 (v := 0) (by decide) ?_
                    exact fin _ _ _ _ h d_Mod_write_102 rfl
          · replace h := it_f hc188 h
            refine xw_iconst C d_Mod_write_36 (v := 0) (by decide) ?_
            exact fin _ _ _ _ h d_Mod_write_37 rfl
