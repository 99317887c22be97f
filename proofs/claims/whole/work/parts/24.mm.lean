def f_Mod_release_L36 (y13 y14 y15 : Int32) (k : Int32 → Int32 → tj_S → Option (tj_S)) : Nat → Int32 → Int32 → tj_S → Option (tj_S)
  | 0, _, _, _ => none
  | n + 1, x11, x12, s16 =>
    if (s16 0 10) ≤ x12 then
      k x11 x12 s16
    else
      if x11 = (0 : Int32) then
        gd (inb (((23 : Int32) * x12) + y15) 184) <|
        if (s16 6 (Int32.toNatClampNeg (((23 : Int32) * x12) + y15))) = (0 : Int32) then
          nm (x12 + Int32.ofInt 1) fun x19 =>
          f_Mod_release_L36 y13 y14 y15 k n (0 : Int32) x19 s16
        else
          bd (f_Mod_later x12 y15 (1 : Int32) s16) fun r22 s21 =>
          if r22 = (0 : Int32) then
            nm (x12 + Int32.ofInt 1) fun x24 =>
            f_Mod_release_L36 y13 y14 y15 k n (1 : Int32) x24 s21
          else
            nm (x12 + Int32.ofInt 1) fun x23 =>
            f_Mod_release_L36 y13 y14 y15 k n (0 : Int32) x23 s21
      else
        nm (x12 + Int32.ofInt 1) fun x17 =>
        f_Mod_release_L36 y13 y14 y15 k n (1 : Int32) x17 s16
def f_Mod_release (a1 a2 : Int32) (s0 : tj_S) : Option (tj_S) :=
  gd (inb a1 92) <|
  nm ((s0 2 (Int32.toNatClampNeg a1))) fun x2 =>
  gd (inb a1 92) <|
  nm (up2 s0 2 (Int32.toNatClampNeg a1) (0 : Int32)) fun s4 =>
  gd (inb x2 23) <|
  nm (up2 s4 3 (Int32.toNatClampNeg x2) (vp_nar .boolean (0 : Int32))) fun s6 =>
  bv (f_Mod_clean x2 s6) fun s8 =>
  bv (f_Mod_remap s8) fun s10 =>
  f_Mod_release_L36 a1 a2 x2 (fun x32 x33 s34 =>
    if a2 = (0 : Int32) then
      some s34
    else
      if (s34 0 13) = (2 : Int32) then
        some s34
      else
        if x32 = (0 : Int32) then
          some s34
        else
          gd (inb x2 23) <|
          nm (up2 s34 4 (Int32.toNatClampNeg x2) (vp_nar .boolean (1 : Int32))) fun s36 =>
          some s36) 100 (0 : Int32) (0 : Int32) s10
set_option maxRecDepth 100000 in
set_option maxHeartbeats 4000000 in
theorem c_Mod_release {l : Launch} {D : va_G} {K : Nat → ClassId} {q : Nat → Nat} {a1 a2 : Int32} {s0 sE : tj_S} (h : f_Mod_release a1 a2 s0 = some sE) : tj_Mv l D tj_cls (M_tys K) tj_N tj_T (M_cw K q) y_Mod_release b_Mod_release 6 2 46 [.ref (q 0), .int a1, .int a2] s0 sE := by
  refine tj_start_v (by decide +kernel) (Nat.le_of_ble_eq_true rfl) (fun Γ C fin => ?_)
  show tj_W Γ (M_cw K q) s0 [(0, .ref (q 0)), (1, .int a1), (2, .int a2)] 0 []
  have L36 : ∀ (y13 y14 y15 : Int32) (k : Int32 → Int32 → tj_S → Option (tj_S)), (∀ (x29 x30 : Int32) (s31 : tj_S), k x29 x30 s31 = some sE → tj_W Γ (M_cw K q) s31 [(0, .ref (q 0)), (1, .int y13), (2, .int y14), (3, .int y15), (4, .int x29), (5, .int x30)] 89 []) → ∀ (n : Nat) (x11 x12 : Int32) (s16 : tj_S), f_Mod_release_L36 y13 y14 y15 k n x11 x12 s16 = some sE → tj_W Γ (M_cw K q) s16 [(0, .ref (q 0)), (1, .int y13), (2, .int y14), (3, .int y15), (4, .int x11), (5, .int x12)] 36 [] := by
    intro y13 y14 y15 k hk n
    induction n with
    | zero => intro x11 x12 s16 h; rw [f_Mod_release_L36] at h; cases h
    | succ n ih =>
      intro x11 x12 s16 h
      rw [f_Mod_release_L36] at h
      refine xw_iload C d_Mod_release_36 5 rfl ?_
      refine xw_aload_n C d_Mod_release_38 0 rfl ?_
      refine xw_get C F_Mod_ok 0 rfl rfl 10 (by decide) T_483 rfl d_Mod_release_39 ?_
      refine xw_icmp_ge C d_Mod_release_42 (tgt := 89) (by decide) (fun hc28 => ?_) (fun hc28 => ?_)
      · replace h := it_t hc28 h
        exact xw_lv [0, 1, 2, 3, 4, 5] rfl (hk _ _ _ h)
      · replace h := it_f hc28 h
        refine xw_iload C d_Mod_release_45 4 rfl ?_
        refine xw_if_ne C d_Mod_release_47 (tgt := 76) (by decide) (fun hc27 => ?_) (fun hc27 => ?_)
        · replace h := it_f hc27 h
          refine xw_iconst C d_Mod_release_76 (v := 1) (by decide) ?_
          refine xw_goto C d_Mod_release_77 (tgt := 81) (by decide) ?_
          refine xw_istore C d_Mod_release_81 (by decide) (lv1 := [(4, .int (1 : Int32)), (0, .ref (q 0)), (1, .int y13), (2, .int y14), (3, .int y15), (5, .int x12)]) rfl ?_
          refine xw_iinc C h (fun v => [(5, .int v), (4, .int (1 : Int32)), (0, .ref (q 0)), (1, .int y13), (2, .int y14), (3, .int y15)]) d_Mod_release_83 5 rfl (by decide) (fun _ => rfl) (fun x17 h => ?_)
          refine xw_goto C d_Mod_release_86 (tgt := 36) (by decide) ?_
          exact xw_lv [2, 3, 4, 5, 1, 0] rfl (ih _ _ _ h)
        · replace h := it_t hc27 h
          refine xw_aload_n C d_Mod_release_50 0 rfl ?_
          refine xw_get C F_Mod_ok 0 rfl rfl 6 (by decide) T_479 rfl d_Mod_release_51 ?_
          refine xw_bipush C d_Mod_release_54 (v := 23) (by decide) ?_
          refine xw_iload C d_Mod_release_56 5 rfl ?_
          refine xw_imul C d_Mod_release_58 ?_
          refine xw_iload_n C d_Mod_release_59 3 rfl ?_
          refine xw_iadd C d_Mod_release_60 ?_
          obtain ⟨hb18, h⟩ := gd_e h
          refine xw_zald C 6 5 rfl rfl hb18 d_Mod_release_61 ?_
          refine xw_if_eq C d_Mod_release_62 (tgt := 80) (by decide) (fun hc26 => ?_) (fun hc26 => ?_)
          · replace h := it_t hc26 h
            refine xw_iconst C d_Mod_release_80 (v := 0) (by decide) ?_
            refine xw_istore C d_Mod_release_81 (by decide) (lv1 := [(4, .int (0 : Int32)), (0, .ref (q 0)), (1, .int y13), (2, .int y14), (3, .int y15), (5, .int x12)]) rfl ?_
            refine xw_iinc C h (fun v => [(5, .int v), (4, .int (0 : Int32)), (0, .ref (q 0)), (1, .int y13), (2, .int y14), (3, .int y15)]) d_Mod_release_83 5 rfl (by decide) (fun _ => rfl) (fun x19 h => ?_)
            refine xw_goto C d_Mod_release_86 (tgt := 36) (by decide) ?_
            exact xw_lv [2, 3, 4, 5, 1, 0] rfl (ih _ _ _ h)
          · replace h := it_f hc26 h
            refine xw_aload_n C d_Mod_release_65 0 rfl ?_
            refine xw_iload C d_Mod_release_66 5 rfl ?_
            refine xw_iload_n C d_Mod_release_68 3 rfl ?_
            refine xw_iconst C d_Mod_release_69 (v := 1) (by decide) ?_
            obtain ⟨r22, s21, hc20, h⟩ := bd_e h
            refine xw_callV_i C tj_Tg tj_Ng (n := 3) (As := [.int x12, .int y15, .int (1 : Int32)]) (rest := []) (c_Mod_later hc20) T_588 T_585 T_6 T_587 S_31 0 rfl rfl rfl (by decide +kernel) (by decide) rfl rfl (Nat.le_of_ble_eq_true rfl) d_Mod_release_70 ?_
            refine xw_if_ne C d_Mod_release_73 (tgt := 80) (by decide) (fun hc25 => ?_) (fun hc25 => ?_)
            · replace h := it_f hc25 h
              refine xw_iconst C d_Mod_release_80 (v := 0) (by decide) ?_
              refine xw_istore C d_Mod_release_81 (by decide) (lv1 := [(4, .int (0 : Int32)), (0, .ref (q 0)), (1, .int y13), (2, .int y14), (3, .int y15), (5, .int x12)]) rfl ?_
              refine xw_iinc C h (fun v => [(5, .int v), (4, .int (0 : Int32)), (0, .ref (q 0)), (1, .int y13), (2, .int y14), (3, .int y15)]) d_Mod_release_83 5 rfl (by decide) (fun _ => rfl) (fun x23 h => ?_)
              refine xw_goto C d_Mod_release_86 (tgt := 36) (by decide) ?_
              exact xw_lv [2, 3, 4, 5, 1, 0] rfl (ih _ _ _ h)
            · replace h := it_t hc25 h
              refine xw_iconst C d_Mod_release_76 (v := 1) (by decide) ?_
              refine xw_goto C d_Mod_release_77 (tgt := 81) (by decide) ?_
              refine xw_istore C d_Mod_release_81 (by decide) (lv1 := [(4, .int (1 : Int32)), (0, .ref (q 0)), (1, .int y13), (2, .int y14), (3, .int y15), (5, .int x12)]) rfl ?_
              refine xw_iinc C h (fun v => [(5, .int v), (4, .int (1 : Int32)), (0, .ref (q 0)), (1, .int y13), (2, .int y14), (3, .int y15)]) d_Mod_release_83 5 rfl (by decide) (fun _ => rfl) (fun x24 h => ?_)
              refine xw_goto C d_Mod_release_86 (tgt := 36) (by decide) ?_
              exact xw_lv [2, 3, 4, 5, 1, 0] rfl (ih _ _ _ h)
  unfold f_Mod_release at h
  refine xw_aload_n C d_Mod_release_0 0 rfl ?_
  refine xw_get C F_Mod_ok 0 rfl rfl 1 (by decide) T_474 rfl d_Mod_release_1 ?_
  refine xw_iload_n C d_Mod_release_4 1 rfl ?_
  obtain ⟨hb1, h⟩ := gd_e h
  refine xw_iald C 2 1 rfl rfl hb1 d_Mod_release_5 ?_
  refine xw_ni h (fun x2 h => ?_)
  refine xw_istore_n C d_Mod_release_6 rfl (by decide) (lv1 := [(3, .int x2), (0, .ref (q 0)), (1, .int a1), (2, .int a2)]) rfl ?_
  refine xw_aload_n C d_Mod_release_7 1 rfl ?_
  refine xw_get C F_Mod_ok 0 rfl rfl 1 (by decide) T_474 rfl d_Mod_release_8 ?_
  refine xw_iload_n C d_Mod_release_11 2 rfl ?_
  refine xw_iconst C d_Mod_release_12 (v := 0) (by decide) ?_
  obtain ⟨hb3, h⟩ := gd_e h
  refine xw_iast C 2 1 rfl rfl hb3 d_Mod_release_13 (σ1 := (up2 s0 2 (Int32.toNatClampNeg a1) (0 : Int32))) rfl ?_
  refine xw_ns h (fun s4 h => ?_)
  refine xw_aload_n C d_Mod_release_14 1 rfl ?_
  refine xw_get C F_Mod_ok 0 rfl rfl 2 (by decide) T_475 rfl d_Mod_release_15 ?_
  refine xw_iload_n C d_Mod_release_18 0 rfl ?_
  refine xw_iconst C d_Mod_release_19 (v := 0) (by decide) ?_
  obtain ⟨hb5, h⟩ := gd_e h
  refine xw_zast C 3 2 rfl rfl hb5 d_Mod_release_20 (σ1 := (up2 s4 3 (Int32.toNatClampNeg x2) (vp_nar .boolean (0 : Int32)))) rfl ?_
  refine xw_ns h (fun s6 h => ?_)
  refine xw_aload_n C d_Mod_release_21 1 rfl ?_
  refine xw_iload_n C d_Mod_release_22 0 rfl ?_
  obtain ⟨s8, hc7, h⟩ := bv_e h
  refine xw_callV_v C tj_Tg tj_Ng (n := 1) (As := [.int x2]) (rest := []) (c_Mod_clean hc7) T_572 T_569 T_6 T_571 S_27 0 rfl rfl rfl (by decide +kernel) (by decide) rfl rfl (Nat.le_of_ble_eq_true rfl) d_Mod_release_23 ?_
  refine xw_aload_n C d_Mod_release_26 1 rfl ?_
  obtain ⟨s10, hc9, h⟩ := bv_e h
  refine xw_callV_v C tj_Tg tj_Ng (n := 0) (As := []) (rest := []) (c_Mod_remap hc9) T_604 T_601 T_6 T_603 S_35 0 rfl rfl rfl (by decide +kernel) (by decide) rfl rfl (Nat.le_of_ble_eq_true rfl) d_Mod_release_27 ?_
  refine xw_iconst C d_Mod_release_30 (v := 0) (by decide) ?_
  refine xw_istore C d_Mod_release_31 (by decide) (lv1 := [(4, .int (0 : Int32)), (3, .int x2), (0, .ref (q 0)), (1, .int a1), (2, .int a2)]) rfl ?_
  refine xw_iconst C d_Mod_release_33 (v := 0) (by decide) ?_
  refine xw_istore C d_Mod_release_34 (by decide) (lv1 := [(5, .int (0 : Int32)), (4, .int (0 : Int32)), (3, .int x2), (0, .ref (q 0)), (1, .int a1), (2, .int a2)]) rfl ?_
  refine xw_lv [3, 4, 5, 2, 1, 0] rfl (L36 _ _ _ _ (fun x32 x33 s34 h => ?_) 100 _ _ _ h)
  refine xw_iload_n C d_Mod_release_89 2 rfl ?_
  refine xw_if_eq C d_Mod_release_90 (tgt := 113) (by decide) (fun hc39 => ?_) (fun hc39 => ?_)
  · replace h := it_t hc39 h
    exact fin _ _ _ h d_Mod_release_113
  · replace h := it_f hc39 h
    refine xw_aload_n C d_Mod_release_93 0 rfl ?_
    refine xw_get C F_Mod_ok 0 rfl rfl 13 (by decide) T_486 rfl d_Mod_release_94 ?_
    refine xw_iconst C d_Mod_release_97 (v := 2) (by decide) ?_
    refine xw_icmp_eq C d_Mod_release_98 (tgt := 113) (by decide) (fun hc38 => ?_) (fun hc38 => ?_)
    · replace h := it_t hc38 h
      exact fin _ _ _ h d_Mod_release_113
    · replace h := it_f hc38 h
      refine xw_iload C d_Mod_release_101 4 rfl ?_
      refine xw_if_eq C d_Mod_release_103 (tgt := 113) (by decide) (fun hc37 => ?_) (fun hc37 => ?_)
      · replace h := it_t hc37 h
        exact fin _ _ _ h d_Mod_release_113
      · replace h := it_f hc37 h
        refine xw_aload_n C d_Mod_release_106 0 rfl ?_
        refine xw_get C F_Mod_ok 0 rfl rfl 3 (by decide) T_476 rfl d_Mod_release_107 ?_
        refine xw_iload_n C d_Mod_release_110 3 rfl ?_
        refine xw_iconst C d_Mod_release_111 (v := 1) (by decide) ?_
        obtain ⟨hb35, h⟩ := gd_e h
        refine xw_zast C 4 3 rfl rfl hb35 d_Mod_release_112 (σ1 := (up2 s34 4 (Int32.toNatClampNeg x2) (vp_nar .boolean (1 : Int32)))) rfl ?_
        refine xw_ns h (fun s36 h => ?_)
        exact fin _ _ _ h d_Mod_release_113
def f_Mod_shorten_L15 (y5 y6 y7 : Int32) (k : Int32 → Int32 → tj_S → Option (tj_S)) : Nat → Int32 → Int32 → tj_S → Option (tj_S)
  | 0, _, _, _ => none
  | n + 1, x3, x4, s8 =>
    if (6 : Int32) ≤ x4 then
      k x3 x4 s8
    else
      if ((4 : Int32) * x4) < y6 then
        nm (x4 + Int32.ofInt 1) fun x9 =>
        f_Mod_shorten_L15 y5 y6 y7 k n x3 x9 s8
      else
        if y7 ≤ ((4 : Int32) * x4) then
          nm (x4 + Int32.ofInt 1) fun x10 =>
          f_Mod_shorten_L15 y5 y6 y7 k n x3 x10 s8
        else
          bd (f_Mod_cell y5 x4 s8) fun r13 s12 =>
          bv (f_Mod_release r13 (0 : Int32) s12) fun s15 =>
          if x3 = (0 : Int32) then
            if x4 ≤ (1 : Int32) then
              nm (x4 + Int32.ofInt 1) fun x17 =>
              f_Mod_shorten_L15 y5 y6 y7 k n (0 : Int32) x17 s15
            else
              nm (x4 + Int32.ofInt 1) fun x18 =>
              f_Mod_shorten_L15 y5 y6 y7 k n (1 : Int32) x18 s15
          else
            nm (x4 + Int32.ofInt 1) fun x16 =>
            f_Mod_shorten_L15 y5 y6 y7 k n (1 : Int32) x16 s15
def f_Mod_shorten (a1 a2 : Int32) (s0 : tj_S) : Option (tj_S) :=
  gd (inb ((4 : Int32) * a1) 92) <|
  nm ((s0 2 (Int32.toNatClampNeg ((4 : Int32) * a1)))) fun x2 =>
  f_Mod_shorten_L15 a1 a2 x2 (fun x27 x28 s29 =>
    if x2 ≤ (8 : Int32) then
      if x27 = (0 : Int32) then
        gd (inb ((4 : Int32) * a1) 92) <|
        nm (up2 s29 2 (Int32.toNatClampNeg ((4 : Int32) * a1)) a2) fun s31 =>
        gd (inb a1 23) <|
        nm (up2 s31 3 (Int32.toNatClampNeg a1) (vp_nar .boolean (1 : Int32))) fun s33 =>
        some s33
      else
        gd (inb (((4 : Int32) * a1) + (3 : Int32)) 92) <|
        gd (inb (s29 2 (Int32.toNatClampNeg (((4 : Int32) * a1) + (3 : Int32)))) 23) <|
        nm (up2 s29 3 (Int32.toNatClampNeg (s29 2 (Int32.toNatClampNeg (((4 : Int32) * a1) + (3 : Int32))))) (vp_nar .boolean (1 : Int32))) fun s36 =>
        gd (inb ((4 : Int32) * a1) 92) <|
        nm (up2 s36 2 (Int32.toNatClampNeg ((4 : Int32) * a1)) a2) fun s38 =>
        gd (inb a1 23) <|
        nm (up2 s38 3 (Int32.toNatClampNeg a1) (vp_nar .boolean (1 : Int32))) fun s40 =>
        some s40
    else
      if (8 : Int32) < a2 then
        if x27 = (0 : Int32) then
          gd (inb ((4 : Int32) * a1) 92) <|
          nm (up2 s29 2 (Int32.toNatClampNeg ((4 : Int32) * a1)) a2) fun s43 =>
          gd (inb a1 23) <|
          nm (up2 s43 3 (Int32.toNatClampNeg a1) (vp_nar .boolean (1 : Int32))) fun s45 =>
          some s45
        else
          gd (inb (((4 : Int32) * a1) + (3 : Int32)) 92) <|
          gd (inb (s29 2 (Int32.toNatClampNeg (((4 : Int32) * a1) + (3 : Int32)))) 23) <|
          nm (up2 s29 3 (Int32.toNatClampNeg (s29 2 (Int32.toNatClampNeg (((4 : Int32) * a1) + (3 : Int32))))) (vp_nar .boolean (1 : Int32))) fun s48 =>
          gd (inb ((4 : Int32) * a1) 92) <|
          nm (up2 s48 2 (Int32.toNatClampNeg ((4 : Int32) * a1)) a2) fun s50 =>
          gd (inb a1 23) <|
          nm (up2 s50 3 (Int32.toNatClampNeg a1) (vp_nar .boolean (1 : Int32))) fun s52 =>
          some s52
      else
        bv (f_Mod_release (((4 : Int32) * a1) + (3 : Int32)) (1 : Int32) s29) fun s55 =>
        gd (inb ((4 : Int32) * a1) 92) <|
        nm (up2 s55 2 (Int32.toNatClampNeg ((4 : Int32) * a1)) a2) fun s57 =>
        gd (inb a1 23) <|
        nm (up2 s57 3 (Int32.toNatClampNeg a1) (vp_nar .boolean (1 : Int32))) fun s59 =>
        some s59) 100 (0 : Int32) (0 : Int32) s0
set_option maxRecDepth 100000 in
set_option maxHeartbeats 4000000 in
theorem c_Mod_shorten {l : Launch} {D : va_G} {K : Nat → ClassId} {q : Nat → Nat} {a1 a2 : Int32} {s0 sE : tj_S} (h : f_Mod_shorten a1 a2 s0 = some sE) : tj_Mv l D tj_cls (M_tys K) tj_N tj_T (M_cw K q) y_Mod_shorten b_Mod_shorten 7 3 71 [.ref (q 0), .int a1, .int a2] s0 sE := by
  refine tj_start_v (by decide +kernel) (Nat.le_of_ble_eq_true rfl) (fun Γ C fin => ?_)
  show tj_W Γ (M_cw K q) s0 [(0, .ref (q 0)), (1, .int a1), (2, .int a2)] 0 []
  have L15 : ∀ (y5 y6 y7 : Int32) (k : Int32 → Int32 → tj_S → Option (tj_S)), (∀ (x24 x25 : Int32) (s26 : tj_S), k x24 x25 s26 = some sE → tj_W Γ (M_cw K q) s26 [(0, .ref (q 0)), (1, .int y5), (2, .int y6), (3, .int y7), (4, .int x24), (5, .int x25)] 78 []) → ∀ (n : Nat) (x3 x4 : Int32) (s8 : tj_S), f_Mod_shorten_L15 y5 y6 y7 k n x3 x4 s8 = some sE → tj_W Γ (M_cw K q) s8 [(0, .ref (q 0)), (1, .int y5), (2, .int y6), (3, .int y7), (4, .int x3), (5, .int x4)] 15 [] := by
    intro y5 y6 y7 k hk n
    induction n with
    | zero => intro x3 x4 s8 h; rw [f_Mod_shorten_L15] at h; cases h
    | succ n ih =>
      intro x3 x4 s8 h
      rw [f_Mod_shorten_L15] at h
      refine xw_iload C d_Mod_shorten_15 5 rfl ?_
      refine xw_bipush C d_Mod_shorten_17 (v := 6) (by decide) ?_
      refine xw_icmp_ge C d_Mod_shorten_19 (tgt := 78) (by decide) (fun hc23 => ?_) (fun hc23 => ?_)
      · replace h := it_t hc23 h
        exact xw_lv [0, 1, 2, 3, 4, 5] rfl (hk _ _ _ h)
      · replace h := it_f hc23 h
        refine xw_iconst C d_Mod_shorten_22 (v := 4) (by decide) ?_
        refine xw_iload C d_Mod_shorten_23 5 rfl ?_
        refine xw_imul C d_Mod_shorten_25 ?_
        refine xw_iload_n C d_Mod_shorten_26 2 rfl ?_
        refine xw_icmp_lt C d_Mod_shorten_27 (tgt := 72) (by decide) (fun hc22 => ?_) (fun hc22 => ?_)
        · replace h := it_t hc22 h
          refine xw_iinc C h (fun v => [(5, .int v), (0, .ref (q 0)), (1, .int y5), (2, .int y6), (3, .int y7), (4, .int x3)]) d_Mod_shorten_72 5 rfl (by decide) (fun _ => rfl) (fun x9 h => ?_)
          refine xw_goto C d_Mod_shorten_75 (tgt := 15) (by decide) ?_
          exact xw_lv [1, 2, 3, 4, 5, 0] rfl (ih _ _ _ h)
        · replace h := it_f hc22 h
          refine xw_iconst C d_Mod_shorten_30 (v := 4) (by decide) ?_
          refine xw_iload C d_Mod_shorten_31 5 rfl ?_
          refine xw_imul C d_Mod_shorten_33 ?_
          refine xw_iload_n C d_Mod_shorten_34 3 rfl ?_
          refine xw_icmp_ge C d_Mod_shorten_35 (tgt := 72) (by decide) (fun hc21 => ?_) (fun hc21 => ?_)
          · replace h := it_t hc21 h
            refine xw_iinc C h (fun v => [(5, .int v), (0, .ref (q 0)), (1, .int y5), (2, .int y6), (3, .int y7), (4, .int x3)]) d_Mod_shorten_72 5 rfl (by decide) (fun _ => rfl) (fun x10 h => ?_)
            refine xw_goto C d_Mod_shorten_75 (tgt := 15) (by decide) ?_
            exact xw_lv [1, 2, 3, 4, 5, 0] rfl (ih _ _ _ h)
          · replace h := it_f hc21 h
            refine xw_aload_n C d_Mod_shorten_38 0 rfl ?_
            refine xw_iload_n C d_Mod_shorten_39 1 rfl ?_
            refine xw_iload C d_Mod_shorten_40 5 rfl ?_
            obtain ⟨r13, s12, hc11, h⟩ := bd_e h
            refine xw_callV_i C tj_Tg tj_Ng (n := 2) (As := [.int y5, .int x4]) (rest := []) (c_Mod_cell hc11) T_608 T_605 T_6 T_607 S_36 0 rfl rfl rfl (by decide +kernel) (by decide) rfl rfl (Nat.le_of_ble_eq_true rfl) d_Mod_shorten_42 ?_
            refine xw_istore C d_Mod_shorten_45 (by decide) (lv1 := [(6, .int r13), (0, .ref (q 0)), (1, .int y5), (2, .int y6), (3, .int y7), (4, .int x3), (5, .int x4)]) rfl ?_
            refine xw_aload_n C d_Mod_shorten_47 1 rfl ?_
            refine xw_iload C d_Mod_shorten_48 0 rfl ?_
            refine xw_iconst C d_Mod_shorten_50 (v := 0) (by decide) ?_
            obtain ⟨s15, hc14, h⟩ := bv_e h
            refine xw_callV_v C tj_Tg tj_Ng (n := 2) (As := [.int r13, .int (0 : Int32)]) (rest := []) (c_Mod_release hc14) T_624 T_621 T_6 T_623 S_39 0 rfl rfl rfl (by decide +kernel) (by decide) rfl rfl (Nat.le_of_ble_eq_true rfl) d_Mod_shorten_51 ?_
            refine xw_iload C d_Mod_shorten_54 5 rfl ?_
            refine xw_if_ne C d_Mod_shorten_56 (tgt := 65) (by decide) (fun hc20 => ?_) (fun hc20 => ?_)
            · replace h := it_f hc20 h
              refine xw_iconst C d_Mod_shorten_65 (v := 1) (by decide) ?_
              refine xw_goto C d_Mod_shorten_66 (tgt := 70) (by decide) ?_
              refine xw_istore C d_Mod_shorten_70 (by decide) (lv1 := [(4, .int (1 : Int32)), (6, .int r13), (0, .ref (q 0)), (1, .int y5), (2, .int y6), (3, .int y7), (5, .int x4)]) rfl ?_
              refine xw_iinc C h (fun v => [(5, .int v), (4, .int (1 : Int32)), (6, .int r13), (0, .ref (q 0)), (1, .int y5), (2, .int y6), (3, .int y7)]) d_Mod_shorten_72 6 rfl (by decide) (fun _ => rfl) (fun x16 h => ?_)
              refine xw_goto C d_Mod_shorten_75 (tgt := 15) (by decide) ?_
              exact xw_lv [3, 4, 5, 6, 1, 0] rfl (ih _ _ _ h)
            · replace h := it_t hc20 h
              refine xw_iload C d_Mod_shorten_59 6 rfl ?_
              refine xw_iconst C d_Mod_shorten_61 (v := 1) (by decide) ?_
              refine xw_icmp_le C d_Mod_shorten_62 (tgt := 69) (by decide) (fun hc19 => ?_) (fun hc19 => ?_)
              · replace h := it_t hc19 h
                refine xw_iconst C d_Mod_shorten_69 (v := 0) (by decide) ?_
                refine xw_istore C d_Mod_shorten_70 (by decide) (lv1 := [(4, .int (0 : Int32)), (6, .int r13), (0, .ref (q 0)), (1, .int y5), (2, .int y6), (3, .int y7), (5, .int x4)]) rfl ?_
                refine xw_iinc C h (fun v => [(5, .int v), (4, .int (0 : Int32)), (6, .int r13), (0, .ref (q 0)), (1, .int y5), (2, .int y6), (3, .int y7)]) d_Mod_shorten_72 6 rfl (by decide) (fun _ => rfl) (fun x17 h => ?_)
                refine xw_goto C d_Mod_shorten_75 (tgt := 15) (by decide) ?_
                exact xw_lv [3, 4, 5, 6, 1, 0] rfl (ih _ _ _ h)
              · replace h := it_f hc19 h
                refine xw_iconst C d_Mod_shorten_65 (v := 1) (by decide) ?_
                refine xw_goto C d_Mod_shorten_66 (tgt := 70) (by decide) ?_
                refine xw_istore C d_Mod_shorten_70 (by decide) (lv1 := [(4, .int (1 : Int32)), (6, .int r13), (0, .ref (q 0)), (1, .int y5), (2, .int y6), (3, .int y7), (5, .int x4)]) rfl ?_
                refine xw_iinc C h (fun v => [(5, .int v), (4, .int (1 : Int32)), (6, .int r13), (0, .ref (q 0)), (1, .int y5), (2, .int y6), (3, .int y7)]) d_Mod_shorten_72 6 rfl (by decide) (fun _ => rfl) (fun x18 h => ?_)
                refine xw_goto C d_Mod_shorten_75 (tgt := 15) (by decide) ?_
                exact xw_lv [3, 4, 5, 6, 1, 0] rfl (ih _ _ _ h)
  unfold f_Mod_shorten at h
  refine xw_aload_n C d_Mod_shorten_0 0 rfl ?_
  refine xw_get C F_Mod_ok 0 rfl rfl 1 (by decide) T_474 rfl d_Mod_shorten_1 ?_
  refine xw_iconst C d_Mod_shorten_4 (v := 4) (by decide) ?_
  refine xw_iload_n C d_Mod_shorten_5 1 rfl ?_
  refine xw_imul C d_Mod_shorten_6 ?_
  obtain ⟨hb1, h⟩ := gd_e h
  refine xw_iald C 2 1 rfl rfl hb1 d_Mod_shorten_7 ?_
  refine xw_ni h (fun x2 h => ?_)
  refine xw_istore_n C d_Mod_shorten_8 rfl (by decide) (lv1 := [(3, .int x2), (0, .ref (q 0)), (1, .int a1), (2, .int a2)]) rfl ?_
  refine xw_iconst C d_Mod_shorten_9 (v := 0) (by decide) ?_
  refine xw_istore C d_Mod_shorten_10 (by decide) (lv1 := [(4, .int (0 : Int32)), (3, .int x2), (0, .ref (q 0)), (1, .int a1), (2, .int a2)]) rfl ?_
  refine xw_iconst C d_Mod_shorten_12 (v := 0) (by decide) ?_
  refine xw_istore C d_Mod_shorten_13 (by decide) (lv1 := [(5, .int (0 : Int32)), (4, .int (0 : Int32)), (3, .int x2), (0, .ref (q 0)), (1, .int a1), (2, .int a2)]) rfl ?_
  refine xw_lv [3, 4, 5, 2, 1, 0] rfl (L15 _ _ _ _ (fun x27 x28 s29 h => ?_) 100 _ _ _ h)
  refine xw_iload_n C d_Mod_shorten_78 3 rfl ?_
  refine xw_bipush C d_Mod_shorten_79 (v := 8) (by decide) ?_
  refine xw_icmp_le C d_Mod_shorten_81 (tgt := 103) (by decide) (fun hc61 => ?_) (fun hc61 => ?_)
  · replace h := it_t hc61 h
    refine xw_iload C d_Mod_shorten_103 4 rfl ?_
    refine xw_if_eq C d_Mod_shorten_105 (tgt := 124) (by decide) (fun hc41 => ?_) (fun hc41 => ?_)
    · replace h := it_t hc41 h
      refine xw_aload_n C d_Mod_shorten_124 0 rfl ?_
      refine xw_get C F_Mod_ok 0 rfl rfl 1 (by decide) T_474 rfl d_Mod_shorten_125 ?_
      refine xw_iconst C d_Mod_shorten_128 (v := 4) (by decide) ?_
      refine xw_iload_n C d_Mod_shorten_129 1 rfl ?_
      refine xw_imul C d_Mod_shorten_130 ?_
      refine xw_iload_n C d_Mod_shorten_131 2 rfl ?_
      obtain ⟨hb30, h⟩ := gd_e h
      refine xw_iast C 2 1 rfl rfl hb30 d_Mod_shorten_132 (σ1 := (up2 s29 2 (Int32.toNatClampNeg ((4 : Int32) * a1)) a2)) rfl ?_
      refine xw_ns h (fun s31 h => ?_)
      refine xw_aload_n C d_Mod_shorten_133 0 rfl ?_
      refine xw_get C F_Mod_ok 0 rfl rfl 2 (by decide) T_475 rfl d_Mod_shorten_134 ?_
      refine xw_iload_n C d_Mod_shorten_137 1 rfl ?_
      refine xw_iconst C d_Mod_shorten_138 (v := 1) (by decide) ?_
      obtain ⟨hb32, h⟩ := gd_e h
      refine xw_zast C 3 2 rfl rfl hb32 d_Mod_shorten_139 (σ1 := (up2 s31 3 (Int32.toNatClampNeg a1) (vp_nar .boolean (1 : Int32)))) rfl ?_
      refine xw_ns h (fun s33 h => ?_)
      exact fin _ _ _ h d_Mod_shorten_140
    · replace h := it_f hc41 h
      refine xw_aload_n C d_Mod_shorten_108 0 rfl ?_
      refine xw_get C F_Mod_ok 0 rfl rfl 2 (by decide) T_475 rfl d_Mod_shorten_109 ?_
      refine xw_aload_n C d_Mod_shorten_112 0 rfl ?_
      refine xw_get C F_Mod_ok 0 rfl rfl 1 (by decide) T_474 rfl d_Mod_shorten_113 ?_
      refine xw_iconst C d_Mod_shorten_116 (v := 4) (by decide) ?_
      refine xw_iload_n C d_Mod_shorten_117 1 rfl ?_
      refine xw_imul C d_Mod_shorten_118 ?_
      refine xw_iconst C d_Mod_shorten_119 (v := 3) (by decide) ?_
      refine xw_iadd C d_Mod_shorten_120 ?_
      obtain ⟨hb34, h⟩ := gd_e h
      refine xw_iald C 2 1 rfl rfl hb34 d_Mod_shorten_121 ?_
      refine xw_iconst C d_Mod_shorten_122 (v := 1) (by decide) ?_
      obtain ⟨hb35, h⟩ := gd_e h
      refine xw_zast C 3 2 rfl rfl hb35 d_Mod_shorten_123 (σ1 := (up2 s29 3 (Int32.toNatClampNeg (s29 2 (Int32.toNatClampNeg (((4 : Int32) * a1) + (3 : Int32))))) (vp_nar .boolean (1 : Int32)))) rfl ?_
      refine xw_ns h (fun s36 h => ?_)
      refine xw_aload_n C d_Mod_shorten_124 0 rfl ?_
      refine xw_get C F_Mod_ok 0 rfl rfl 1 (by decide) T_474 rfl d_Mod_shorten_125 ?_
      refine xw_iconst C d_Mod_shorten_128 (v := 4) (by decide) ?_
      refine xw_iload_n C d_Mod_shorten_129 1 rfl ?_
      refine xw_imul C d_Mod_shorten_130 ?_
      refine xw_iload_n C d_Mod_shorten_131 2 rfl ?_
      obtain ⟨hb37, h⟩ := gd_e h
      refine xw_iast C 2 1 rfl rfl hb37 d_Mod_shorten_132 (σ1 := (up2 s36 2 (Int32.toNatClampNeg ((4 : Int32) * a1)) a2)) rfl ?_
      refine xw_ns h (fun s38 h => ?_)
      refine xw_aload_n C d_Mod_shorten_133 0 rfl ?_
      refine xw_get C F_Mod_ok 0 rfl rfl 2 (by decide) T_475 rfl d_Mod_shorten_134 ?_
      refine xw_iload_n C d_Mod_shorten_137 1 rfl ?_
      refine xw_iconst C d_Mod_shorten_138 (v := 1) (by decide) ?_
      obtain ⟨hb39, h⟩ := gd_e h
      refine xw_zast C 3 2 rfl rfl hb39 d_Mod_shorten_139 (σ1 := (up2 s38 3 (Int32.toNatClampNeg a1) (vp_nar .boolean (1 : Int32)))) rfl ?_
      refine xw_ns h (fun s40 h => ?_)
      exact fin _ _ _ h d_Mod_shorten_140
  · replace h := it_f hc61 h
    refine xw_iload_n C d_Mod_shorten_84 2 rfl ?_
    refine xw_bipush C d_Mod_shorten_85 (v := 8) (by decide) ?_
    refine xw_icmp_gt C d_Mod_shorten_87 (tgt := 103) (by decide) (fun hc60 => ?_) (fun hc60 => ?_)
    · replace h := it_t hc60 h
      refine xw_iload C d_Mod_shorten_103 4 rfl ?_
      refine xw_if_eq C d_Mod_shorten_105 (tgt := 124) (by decide) (fun hc53 => ?_) (fun hc53 => ?_)
      · replace h := it_t hc53 h
        refine xw_aload_n C d_Mod_shorten_124 0 rfl ?_
        refine xw_get C F_Mod_ok 0 rfl rfl 1 (by decide) T_474 rfl d_Mod_shorten_125 ?_
        refine xw_iconst C d_Mod_shorten_128 (v := 4) (by decide) ?_
        refine xw_iload_n C d_Mod_shorten_129 1 rfl ?_
        refine xw_imul C d_Mod_shorten_130 ?_
        refine xw_iload_n C d_Mod_shorten_131 2 rfl ?_
        obtain ⟨hb42, h⟩ := gd_e h
        refine xw_iast C 2 1 rfl rfl hb42 d_Mod_shorten_132 (σ1 := (up2 s29 2 (Int32.toNatClampNeg ((4 : Int32) * a1)) a2)) rfl ?_
        refine xw_ns h (fun s43 h => ?_)
        refine xw_aload_n C d_Mod_shorten_133 0 rfl ?_
        refine xw_get C F_Mod_ok 0 rfl rfl 2 (by decide) T_475 rfl d_Mod_shorten_134 ?_
        refine xw_iload_n C d_Mod_shorten_137 1 rfl ?_
        refine xw_iconst C d_Mod_shorten_138 (v := 1) (by decide) ?_
        obtain ⟨hb44, h⟩ := gd_e h
        refine xw_zast C 3 2 rfl rfl hb44 d_Mod_shorten_139 (σ1 := (up2 s43 3 (Int32.toNatClampNeg a1) (vp_nar .boolean (1 : Int32)))) rfl ?_
        refine xw_ns h (fun s45 h => ?_)
        exact fin _ _ _ h d_Mod_shorten_140
      · replace h := it_f hc53 h
        refine xw_aload_n C d_Mod_shorten_108 0 rfl ?_
        refine xw_get C F_Mod_ok 0 rfl rfl 2 (by decide) T_475 rfl d_Mod_shorten_109 ?_
        refine xw_aload_n C d_Mod_shorten_112 0 rfl ?_
        refine xw_get C F_Mod_ok 0 rfl rfl 1 (by decide) T_474 rfl d_Mod_shorten_113 ?_
        refine xw_iconst C d_Mod_shorten_116 (v := 4) (by decide) ?_
        refine xw_iload_n C d_Mod_shorten_117 1 rfl ?_
        refine xw_imul C d_Mod_shorten_118 ?_
        refine xw_iconst C d_Mod_shorten_119 (v := 3) (by decide) ?_
        refine xw_iadd C d_Mod_shorten_120 ?_
        obtain ⟨hb46, h⟩ := gd_e h
        refine xw_iald C 2 1 rfl rfl hb46 d_Mod_shorten_121 ?_
        refine xw_iconst C d_Mod_shorten_122 (v := 1) (by decide) ?_
        obtain ⟨hb47, h⟩ := gd_e h
        refine xw_zast C 3 2 rfl rfl hb47 d_Mod_shorten_123 (σ1 := (up2 s29 3 (Int32.toNatClampNeg (s29 2 (Int32.toNatClampNeg (((4 : Int32) * a1) + (3 : Int32))))) (vp_nar .boolean (1 : Int32)))) rfl ?_
        refine xw_ns h (fun s48 h => ?_)
        refine xw_aload_n C d_Mod_shorten_124 0 rfl ?_
        refine xw_get C F_Mod_ok 0 rfl rfl 1 (by decide) T_474 rfl d_Mod_shorten_125 ?_
        refine xw_iconst C d_Mod_shorten_128 (v := 4) (by decide) ?_
        refine xw_iload_n C d_Mod_shorten_129 1 rfl ?_
        refine xw_imul C d_Mod_shorten_130 ?_
        refine xw_iload_n C d_Mod_shorten_131 2 rfl ?_
        obtain ⟨hb49, h⟩ := gd_e h
        refine xw_iast C 2 1 rfl rfl hb49 d_Mod_shorten_132 (σ1 := (up2 s48 2 (Int32.toNatClampNeg ((4 : Int32) * a1)) a2)) rfl ?_
        refine xw_ns h (fun s50 h => ?_)
        refine xw_aload_n C d_Mod_shorten_133 0 rfl ?_
        refine xw_get C F_Mod_ok 0 rfl rfl 2 (by decide) T_475 rfl d_Mod_shorten_134 ?_
        refine xw_iload_n C d_Mod_shorten_137 1 rfl ?_
        refine xw_iconst C d_Mod_shorten_138 (v := 1) (by decide) ?_
        obtain ⟨hb51, h⟩ := gd_e h
        refine xw_zast C 3 2 rfl rfl hb51 d_Mod_shorten_139 (σ1 := (up2 s50 3 (Int32.toNatClampNeg a1) (vp_nar .boolean (1 : Int32)))) rfl ?_
        refine xw_ns h (fun s52 h => ?_)
        exact fin _ _ _ h d_Mod_shorten_140
    · replace h := it_f hc60 h
      refine xw_aload_n C d_Mod_shorten_90 0 rfl ?_
      refine xw_iconst C d_Mod_shorten_91 (v := 4) (by decide) ?_
      refine xw_iload_n C d_Mod_shorten_92 1 rfl ?_
      refine xw_imul C d_Mod_shorten_93 ?_
      refine xw_iconst C d_Mod_shorten_94 (v := 3) (by decide) ?_
      refine xw_iadd C d_Mod_shorten_95 ?_
      refine xw_iconst C d_Mod_shorten_96 (v := 1) (by decide) ?_
      obtain ⟨s55, hc54, h⟩ := bv_e h
      refine xw_callV_v C tj_Tg tj_Ng (n := 2) (As := [.int (((4 : Int32) * a1) + (3 : Int32)), .int (1 : Int32)]) (rest := []) (c_Mod_release hc54) T_624 T_621 T_6 T_623 S_39 0 rfl rfl rfl (by decide +kernel) (by decide) rfl rfl (Nat.le_of_ble_eq_true rfl) d_Mod_shorten_97 ?_
      refine xw_goto C d_Mod_shorten_100 (tgt := 124) (by decide) ?_
      refine xw_aload_n C d_Mod_shorten_124 0 rfl ?_
      refine xw_get C F_Mod_ok 0 rfl rfl 1 (by decide) T_474 rfl d_Mod_shorten_125 ?_
      refine xw_iconst C d_Mod_shorten_128 (v := 4) (by decide) ?_
      refine xw_iload_n C d_Mod_shorten_129 1 rfl ?_
      refine xw_imul C d_Mod_shorten_130 ?_
      refine xw_iload_n C d_Mod_shorten_131 2 rfl ?_
      obtain ⟨hb56, h⟩ := gd_e h
      refine xw_iast C 2 1 rfl rfl hb56 d_Mod_shorten_132 (σ1 := (up2 s55 2 (Int32.toNatClampNeg ((4 : Int32) * a1)) a2)) rfl ?_
      refine xw_ns h (fun s57 h => ?_)
      refine xw_aload_n C d_Mod_shorten_133 0 rfl ?_
      refine xw_get C F_Mod_ok 0 rfl rfl 2 (by decide) T_475 rfl d_Mod_shorten_134 ?_
      refine xw_iload_n C d_Mod_shorten_137 1 rfl ?_
      refine xw_iconst C d_Mod_shorten_138 (v := 1) (by decide) ?_
      obtain ⟨hb58, h⟩ := gd_e h
      refine xw_zast C 3 2 rfl rfl hb58 d_Mod_shorten_139 (σ1 := (up2 s57 3 (Int32.toNatClampNeg a1) (vp_nar .boolean (1 : Int32)))) rfl ?_
      refine xw_ns h (fun s59 h => ?_)
      exact fin _ _ _ h d_Mod_shorten_140
def f_Mod_cut (a1 a2 : Int32) (s0 : tj_S) : Option (Int32 × tj_S) :=
  if (s0 0 12) = (0 : Int32) then
    some ((0 : Int32), s0)
  else
    bd (f_Mod_file a1 s0) fun r3 s2 =>
    if r3 = (0 : Int32) then
      some ((0 : Int32), s2)
    else
      if a2 < (0 : Int32) then
        some ((0 : Int32), s2)
      else
        gd (inb ((4 : Int32) * a1) 92) <|
        if (s2 2 (Int32.toNatClampNeg ((4 : Int32) * a1))) ≤ a2 then
          some ((0 : Int32), s2)
        else
          bd (f_Mod_ready s2) fun r7 s6 =>
          if r7 = (0 : Int32) then
            some ((0 : Int32), s6)
          else
            bv (f_Mod_shorten a1 a2 s6) fun s9 =>
            some ((1 : Int32), s9)
set_option maxRecDepth 100000 in
set_option maxHeartbeats 4000000 in
theorem c_Mod_cut {l : Launch} {D : va_G} {K : Nat → ClassId} {q : Nat → Nat} {a1 a2 : Int32} {s0 sE : tj_S} {rE : Int32} (h : f_Mod_cut a1 a2 s0 = some (rE, sE)) : tj_Mi l D tj_cls (M_tys K) tj_N tj_T (M_cw K q) y_Mod_cut b_Mod_cut 3 .boolean 6 130 [.ref (q 0), .int a1, .int a2] s0 rE sE := by
  refine tj_start_i (by decide +kernel) (Nat.le_of_ble_eq_true rfl) (fun Γ C fin => ?_)
  show tj_W Γ (M_cw K q) s0 [(0, .ref (q 0)), (1, .int a1), (2, .int a2)] 0 []
  unfold f_Mod_cut at h
  refine xw_aload_n C d_Mod_cut_0 0 rfl ?_
  refine xw_get C F_Mod_ok 0 rfl rfl 12 (by decide) T_485 rfl d_Mod_cut_1 ?_
  refine xw_if_eq C d_Mod_cut_4 (tgt := 37) (by decide) (fun hc14 => ?_) (fun hc14 => ?_)
  · replace h := it_t hc14 h
    refine xw_iconst C d_Mod_cut_37 (v := 0) (by decide) ?_
    exact fin _ _ _ _ h d_Mod_cut_38 rfl
  · replace h := it_f hc14 h
    refine xw_iload_n C d_Mod_cut_7 1 rfl ?_
    obtain ⟨r3, s2, hc1, h⟩ := bd_e h
    refine xw_callS_i C tj_Tg tj_Ng (n := 1) (As := [.int a1]) (rest := []) (c_Mod_file hc1) T_532 T_530 T_6 T_531 (by decide +kernel) (by decide) rfl rfl (Nat.le_of_ble_eq_true rfl) d_Mod_cut_8 ?_
    refine xw_if_eq C d_Mod_cut_11 (tgt := 37) (by decide) (fun hc13 => ?_) (fun hc13 => ?_)
    · replace h := it_t hc13 h
      refine xw_iconst C d_Mod_cut_37 (v := 0) (by decide) ?_
      exact fin _ _ _ _ h d_Mod_cut_38 rfl
    · replace h := it_f hc13 h
      refine xw_iload_n C d_Mod_cut_14 2 rfl ?_
      refine xw_if_lt C d_Mod_cut_15 (tgt := 37) (by decide) (fun hc12 => ?_) (fun hc12 => ?_)
      · replace h := it_t hc12 h
        refine xw_iconst C d_Mod_cut_37 (v := 0) (by decide) ?_
        exact fin _ _ _ _ h d_Mod_cut_38 rfl
      · replace h := it_f hc12 h
        refine xw_iload_n C d_Mod_cut_18 2 rfl ?_
        refine xw_aload_n C d_Mod_cut_19 0 rfl ?_
        refine xw_get C F_Mod_ok 0 rfl rfl 1 (by decide) T_474 rfl d_Mod_cut_20 ?_
        refine xw_iconst C d_Mod_cut_23 (v := 4) (by decide) ?_
        refine xw_iload_n C d_Mod_cut_24 1 rfl ?_
        refine xw_imul C d_Mod_cut_25 ?_
        obtain ⟨hb4, h⟩ := gd_e h
        refine xw_iald C 2 1 rfl rfl hb4 d_Mod_cut_26 ?_
        refine xw_icmp_ge C d_Mod_cut_27 (tgt := 37) (by decide) (fun hc11 => ?_) (fun hc11 => ?_)
        · replace h := it_t hc11 h
          refine xw_iconst C d_Mod_cut_37 (v := 0) (by decide) ?_
          exact fin _ _ _ _ h d_Mod_cut_38 rfl
        · replace h := it_f hc11 h
          refine xw_aload_n C d_Mod_cut_30 0 rfl ?_
          obtain ⟨r7, s6, hc5, h⟩ := bd_e h
          refine xw_callV_i C tj_Tg tj_Ng (n := 0) (As := []) (rest := []) (c_Mod_ready hc5) T_548 T_545 T_6 T_547 S_21 0 rfl rfl rfl (by decide +kernel) (by decide) rfl rfl (Nat.le_of_ble_eq_true rfl) d_Mod_cut_31 ?_
          refine xw_if_ne C d_Mod_cut_34 (tgt := 39) (by decide) (fun hc10 => ?_) (fun hc10 => ?_)
          · replace h := it_f hc10 h
            refine xw_aload_n C d_Mod_cut_39 0 rfl ?_
            refine xw_iload_n C d_Mod_cut_40 1 rfl ?_
            refine xw_iload_n C d_Mod_cut_41 2 rfl ?_
            obtain ⟨s9, hc8, h⟩ := bv_e h
            refine xw_callV_v C tj_Tg tj_Ng (n := 2) (As := [.int a1, .int a2]) (rest := []) (c_Mod_shorten hc8) T_620 T_617 T_6 T_619 S_38 0 rfl rfl rfl (by decide +kernel) (by decide) rfl rfl (Nat.le_of_ble_eq_true rfl) d_Mod_cut_42 ?_
            refine xw_iconst C d_Mod_cut_45 (v := 1) (by decide) ?_
            exact fin _ _ _ _ h d_Mod_cut_46 rfl
          · replace h := it_t hc10 h
            refine xw_iconst C d_Mod_cut_37 (v := 0) (by decide) ?_
            exact fin _ _ _ _ h d_Mod_cut_38 rfl
def f_Mod_rename_L43 (y13 y14 : Int32) (k : Int32 → tj_S → Option (Int32 × tj_S)) : Nat → Int32 → tj_S → Option (Int32 × tj_S)
  | 0, _, _ => none
  | n + 1, x12, s15 =>
    if (4 : Int32) ≤ x12 then
      k x12 s15
    else
      gd (inb (((4 : Int32) * y13) + x12) 92) <|
      gd (inb (((4 : Int32) * y14) + x12) 92) <|
      nm (up2 s15 2 (Int32.toNatClampNeg (((4 : Int32) * y14) + x12)) (s15 2 (Int32.toNatClampNeg (((4 : Int32) * y13) + x12)))) fun s18 =>
      gd (inb (((4 : Int32) * y13) + x12) 92) <|
      nm (up2 s18 2 (Int32.toNatClampNeg (((4 : Int32) * y13) + x12)) (0 : Int32)) fun s20 =>
      nm (x12 + Int32.ofInt 1) fun x21 =>
      f_Mod_rename_L43 y13 y14 k n x21 s20
def f_Mod_rename (a1 a2 : Int32) (s0 : tj_S) : Option (Int32 × tj_S) :=
  if (s0 0 12) = (0 : Int32) then
    some ((0 : Int32), s0)
  else
    bd (f_Mod_file a1 s0) fun r3 s2 =>
    if r3 = (0 : Int32) then
      some ((0 : Int32), s2)
    else
      bd (f_Mod_file a2 s2) fun r6 s5 =>
      if r6 = (0 : Int32) then
        some ((0 : Int32), s5)
      else
        if a1 = a2 then
          some ((0 : Int32), s5)
        else
          bd (f_Mod_ready s5) fun r9 s8 =>
          if r9 = (0 : Int32) then
            some ((0 : Int32), s8)
          else
            bv (f_Mod_shorten a2 (0 : Int32) s8) fun s11 =>
            f_Mod_rename_L43 a1 a2 (fun x25 s26 =>
              gd (inb a1 23) <|
              nm (up2 s26 3 (Int32.toNatClampNeg a1) (vp_nar .boolean (1 : Int32))) fun s28 =>
              some ((1 : Int32), s28)) 100 (0 : Int32) s11
set_option maxRecDepth 100000 in
set_option maxHeartbeats 4000000 in
theorem c_Mod_rename {l : Launch} {D : va_G} {K : Nat → ClassId} {q : Nat → Nat} {a1 a2 : Int32} {s0 sE : tj_S} {rE : Int32} (h : f_Mod_rename a1 a2 s0 = some (rE, sE)) : tj_Mi l D tj_cls (M_tys K) tj_N tj_T (M_cw K q) y_Mod_rename b_Mod_rename 4 .boolean 6 130 [.ref (q 0), .int a1, .int a2] s0 rE sE := by
  refine tj_start_i (by decide +kernel) (Nat.le_of_ble_eq_true rfl) (fun Γ C fin => ?_)
  show tj_W Γ (M_cw K q) s0 [(0, .ref (q 0)), (1, .int a1), (2, .int a2)] 0 []
  have L43 : ∀ (y13 y14 : Int32) (k : Int32 → tj_S → Option (Int32 × tj_S)), (∀ (x23 : Int32) (s24 : tj_S), k x23 s24 = some (rE, sE) → tj_W Γ (M_cw K q) s24 [(0, .ref (q 0)), (1, .int y13), (2, .int y14), (3, .int x23)] 85 []) → ∀ (n : Nat) (x12 : Int32) (s15 : tj_S), f_Mod_rename_L43 y13 y14 k n x12 s15 = some (rE, sE) → tj_W Γ (M_cw K q) s15 [(0, .ref (q 0)), (1, .int y13), (2, .int y14), (3, .int x12)] 43 [] := by
    intro y13 y14 k hk n
    induction n with
    | zero => intro x12 s15 h; rw [f_Mod_rename_L43] at h; cases h
    | succ n ih =>
      intro x12 s15 h
      rw [f_Mod_rename_L43] at h
      refine xw_iload_n C d_Mod_rename_43 3 rfl ?_
      refine xw_iconst C d_Mod_rename_44 (v := 4) (by decide) ?_
      refine xw_icmp_ge C d_Mod_rename_45 (tgt := 85) (by decide) (fun hc22 => ?_) (fun hc22 => ?_)
      · replace h := it_t hc22 h
        exact xw_lv [0, 1, 2, 3] rfl (hk _ _ h)
      · replace h := it_f hc22 h
        refine xw_aload_n C d_Mod_rename_48 0 rfl ?_
        refine xw_get C F_Mod_ok 0 rfl rfl 1 (by decide) T_474 rfl d_Mod_rename_49 ?_
        refine xw_iconst C d_Mod_rename_52 (v := 4) (by decide) ?_
        refine xw_iload_n C d_Mod_rename_53 2 rfl ?_
        refine xw_imul C d_Mod_rename_54 ?_
        refine xw_iload_n C d_Mod_rename_55 3 rfl ?_
        refine xw_iadd C d_Mod_rename_56 ?_
        refine xw_aload_n C d_Mod_rename_57 0 rfl ?_
        refine xw_get C F_Mod_ok 0 rfl rfl 1 (by decide) T_474 rfl d_Mod_rename_58 ?_
        refine xw_iconst C d_Mod_rename_61 (v := 4) (by decide) ?_
        refine xw_iload_n C d_Mod_rename_62 1 rfl ?_
        refine xw_imul C d_Mod_rename_63 ?_
        refine xw_iload_n C d_Mod_rename_64 3 rfl ?_
        refine xw_iadd C d_Mod_rename_65 ?_
        obtain ⟨hb16, h⟩ := gd_e h
        refine xw_iald C 2 1 rfl rfl hb16 d_Mod_rename_66 ?_
        obtain ⟨hb17, h⟩ := gd_e h
        refine xw_iast C 2 1 rfl rfl hb17 d_Mod_rename_67 (σ1 := (up2 s15 2 (Int32.toNatClampNeg (((4 : Int32) * y14) + x12)) (s15 2 (Int32.toNatClampNeg (((4 : Int32) * y13) + x12))))) rfl ?_
        refine xw_ns h (fun s18 h => ?_)
        refine xw_aload_n C d_Mod_rename_68 0 rfl ?_
        refine xw_get C F_Mod_ok 0 rfl rfl 1 (by decide) T_474 rfl d_Mod_rename_69 ?_
        refine xw_iconst C d_Mod_rename_72 (v := 4) (by decide) ?_
        refine xw_iload_n C d_Mod_rename_73 1 rfl ?_
        refine xw_imul C d_Mod_rename_74 ?_
        refine xw_iload_n C d_Mod_rename_75 3 rfl ?_
        refine xw_iadd C d_Mod_rename_76 ?_
        refine xw_iconst C d_Mod_rename_77 (v := 0) (by decide) ?_
        obtain ⟨hb19, h⟩ := gd_e h
        refine xw_iast C 2 1 rfl rfl hb19 d_Mod_rename_78 (σ1 := (up2 s18 2 (Int32.toNatClampNeg (((4 : Int32) * y13) + x12)) (0 : Int32))) rfl ?_
        refine xw_ns h (fun s20 h => ?_)
        refine xw_iinc C h (fun v => [(3, .int v), (0, .ref (q 0)), (1, .int y13), (2, .int y14)]) d_Mod_rename_79 3 rfl (by decide) (fun _ => rfl) (fun x21 h => ?_)
        refine xw_goto C d_Mod_rename_82 (tgt := 43) (by decide) ?_
        exact xw_lv [1, 2, 3, 0] rfl (ih _ _ h)
  unfold f_Mod_rename at h
  refine xw_aload_n C d_Mod_rename_0 0 rfl ?_
  refine xw_get C F_Mod_ok 0 rfl rfl 12 (by decide) T_485 rfl d_Mod_rename_1 ?_
  refine xw_if_eq C d_Mod_rename_4 (tgt := 33) (by decide) (fun hc33 => ?_) (fun hc33 => ?_)
  · replace h := it_t hc33 h
    refine xw_iconst C d_Mod_rename_33 (v := 0) (by decide) ?_
    exact fin _ _ _ _ h d_Mod_rename_34 rfl
  · replace h := it_f hc33 h
    refine xw_iload_n C d_Mod_rename_7 1 rfl ?_
    obtain ⟨r3, s2, hc1, h⟩ := bd_e h
    refine xw_callS_i C tj_Tg tj_Ng (n := 1) (As := [.int a1]) (rest := []) (c_Mod_file hc1) T_532 T_530 T_6 T_531 (by decide +kernel) (by decide) rfl rfl (Nat.le_of_ble_eq_true rfl) d_Mod_rename_8 ?_
    refine xw_if_eq C d_Mod_rename_11 (tgt := 33) (by decide) (fun hc32 => ?_) (fun hc32 => ?_)
    · replace h := it_t hc32 h
      refine xw_iconst C d_Mod_rename_33 (v := 0) (by decide) ?_
      exact fin _ _ _ _ h d_Mod_rename_34 rfl
    · replace h := it_f hc32 h
      refine xw_iload_n C d_Mod_rename_14 2 rfl ?_
      obtain ⟨r6, s5, hc4, h⟩ := bd_e h
      refine xw_callS_i C tj_Tg tj_Ng (n := 1) (As := [.int a2]) (rest := []) (c_Mod_file hc4) T_532 T_530 T_6 T_531 (by decide +kernel) (by decide) rfl rfl (Nat.le_of_ble_eq_true rfl) d_Mod_rename_15 ?_
      refine xw_if_eq C d_Mod_rename_18 (tgt := 33) (by decide) (fun hc31 => ?_) (fun hc31 => ?_)
      · replace h := it_t hc31 h
        refine xw_iconst C d_Mod_rename_33 (v := 0) (by decide) ?_
        exact fin _ _ _ _ h d_Mod_rename_34 rfl
      · replace h := it_f hc31 h
        refine xw_iload_n C d_Mod_rename_21 1 rfl ?_
        refine xw_iload_n C d_Mod_rename_22 2 rfl ?_
        refine xw_icmp_eq C d_Mod_rename_23 (tgt := 33) (by decide) (fun hc30 => ?_) (fun hc30 => ?_)
        · replace h := it_t hc30 h
          refine xw_iconst C d_Mod_rename_33 (v := 0) (by decide) ?_
          exact fin _ _ _ _ h d_Mod_rename_34 rfl
        · replace h := it_f hc30 h
          refine xw_aload_n C d_Mod_rename_26 0 rfl ?_
          obtain ⟨r9, s8, hc7, h⟩ := bd_e h
          refine xw_callV_i C tj_Tg tj_Ng (n := 0) (As := []) (rest := []) (c_Mod_ready hc7) T_548 T_545 T_6 T_547 S_21 0 rfl rfl rfl (by decide +kernel) (by decide) rfl rfl (Nat.le_of_ble_eq_true rfl) d_Mod_rename_27 ?_
          refine xw_if_ne C d_Mod_rename_30 (tgt := 35) (by decide) (fun hc29 => ?_) (fun hc29 => ?_)
          · replace h := it_f hc29 h
            refine xw_aload_n C d_Mod_rename_35 0 rfl ?_
            refine xw_iload_n C d_Mod_rename_36 2 rfl ?_
            refine xw_iconst C d_Mod_rename_37 (v := 0) (by decide) ?_
            obtain ⟨s11, hc10, h⟩ := bv_e h
            refine xw_callV_v C tj_Tg tj_Ng (n := 2) (As := [.int a2, .int (0 : Int32)]) (rest := []) (c_Mod_shorten hc10) T_620 T_617 T_6 T_619 S_38 0 rfl rfl rfl (by decide +kernel) (by decide) rfl rfl (Nat.le_of_ble_eq_true rfl) d_Mod_rename_38 ?_
            refine xw_iconst C d_Mod_rename_41 (v := 0) (by decide) ?_
            refine xw_istore_n C d_Mod_rename_42 rfl (by decide) (lv1 := [(3, .int (0 : Int32)), (0, .ref (q 0)), (1, .int a1), (2, .int a2)]) rfl ?_
            refine xw_lv [1, 2, 3, 0] rfl (L43 _ _ _ (fun x25 s26 h => ?_) 100 _ _ h)
            refine xw_aload_n C d_Mod_rename_85 0 rfl ?_
            refine xw_get C F_Mod_ok 0 rfl rfl 2 (by decide) T_475 rfl d_Mod_rename_86 ?_
            refine xw_iload_n C d_Mod_rename_89 1 rfl ?_
            refine xw_iconst C d_Mod_rename_90 (v := 1) (by decide) ?_
            obtain ⟨hb27, h⟩ := gd_e h
            refine xw_zast C 3 2 rfl rfl hb27 d_Mod_rename_91 (σ1 := (up2 s26 3 (Int32.toNatClampNeg a1) (vp_nar .boolean (1 : Int32)))) rfl ?_
            refine xw_ns h (fun s28 h => ?_)
            refine xw_iconst C d_Mod_rename_92 (v := 1) (by decide) ?_
            exact fin _ _ _ _ h d_Mod_rename_93 rfl
          · replace h := it_t hc29 h
            refine xw_iconst C d_Mod_rename_33 (v := 0) (by decide) ?_
            exact fin _ _ _ _ h d_Mod_rename_34 rfl
def f_Mod_read (a1 a2 : Int32) (s0 : tj_S) : Option (Int32 × tj_S) :=
  if (s0 0 12) = (0 : Int32) then
    some ((0 : Int32), s0)
  else
    bd (f_Mod_file a1 s0) fun r3 s2 =>
    if r3 = (0 : Int32) then
      some ((0 : Int32), s2)
    else
      if a2 < (0 : Int32) then
        some ((0 : Int32), s2)
      else
        gd (inb ((4 : Int32) * a1) 92) <|
        if a2 < (s2 2 (Int32.toNatClampNeg ((4 : Int32) * a1))) then
          bd (f_Mod_cell a1 (a2 / (4 : Int32)) s2) fun r7 s6 =>
          gd (inb r7 92) <|
          nm ((s6 2 (Int32.toNatClampNeg r7))) fun x9 =>
          gd (inb (((4 : Int32) * x9) + (a2 - a2 / (4 : Int32) * (4 : Int32))) 92) <|
          some ((s6 2 (Int32.toNatClampNeg (((4 : Int32) * x9) + (a2 - a2 / (4 : Int32) * (4 : Int32))))), s6)
        else
          some ((0 : Int32), s2)
set_option maxRecDepth 100000 in
set_option maxHeartbeats 4000000 in
theorem c_Mod_read {l : Launch} {D : va_G} {K : Nat → ClassId} {q : Nat → Nat} {a1 a2 : Int32} {s0 sE : tj_S} {rE : Int32} (h : f_Mod_read a1 a2 s0 = some (rE, sE)) : tj_Mi l D tj_cls (M_tys K) tj_N tj_T (M_cw K q) y_Mod_read b_Mod_read 4 .int 1 22 [.ref (q 0), .int a1, .int a2] s0 rE sE := by
  refine tj_start_i (by decide +kernel) (Nat.le_of_ble_eq_true rfl) (fun Γ C fin => ?_)
  show tj_W Γ (M_cw K q) s0 [(0, .ref (q 0)), (1, .int a1), (2, .int a2)] 0 []
  unfold f_Mod_read at h
  refine xw_aload_n C d_Mod_read_0 0 rfl ?_
  refine xw_get C F_Mod_ok 0 rfl rfl 12 (by decide) T_485 rfl d_Mod_read_1 ?_
  refine xw_if_eq C d_Mod_read_4 (tgt := 30) (by decide) (fun hc14 => ?_) (fun hc14 => ?_)
  · replace h := it_t hc14 h
    refine xw_iconst C d_Mod_read_30 (v := 0) (by decide) ?_
    exact fin _ _ _ _ h d_Mod_read_31 rfl
  · replace h := it_f hc14 h
    refine xw_iload_n C d_Mod_read_7 1 rfl ?_
    obtain ⟨r3, s2, hc1, h⟩ := bd_e h
    refine xw_callS_i C tj_Tg tj_Ng (n := 1) (As := [.int a1]) (rest := []) (c_Mod_file hc1) T_532 T_530 T_6 T_531 (by decide +kernel) (by decide) rfl rfl (Nat.le_of_ble_eq_true rfl) d_Mod_read_8 ?_
    refine xw_if_eq C d_Mod_read_11 (tgt := 30) (by decide) (fun hc13 => ?_) (fun hc13 => ?_)
    · replace h := it_t hc13 h
      refine xw_iconst C d_Mod_read_30 (v := 0) (by decide) ?_
      exact fin _ _ _ _ h d_Mod_read_31 rfl
    · replace h := it_f hc13 h
      refine xw_iload_n C d_Mod_read_14 2 rfl ?_
      refine xw_if_lt C d_Mod_read_15 (tgt := 30) (by decide) (fun hc12 => ?_) (fun hc12 => ?_)
      · replace h := it_t hc12 h
        refine xw_iconst C d_Mod_read_30 (v := 0) (by decide) ?_
        exact fin _ _ _ _ h d_Mod_read_31 rfl
      · replace h := it_f hc12 h
        refine xw_iload_n C d_Mod_read_18 2 rfl ?_
        refine xw_aload_n C d_Mod_read_19 0 rfl ?_
        refine xw_get C F_Mod_ok 0 rfl rfl 1 (by decide) T_474 rfl d_Mod_read_20 ?_
        refine xw_iconst C d_Mod_read_23 (v := 4) (by decide) ?_
        refine xw_iload_n C d_Mod_read_24 1 rfl ?_
        refine xw_imul C d_Mod_read_25 ?_
        obtain ⟨hb4, h⟩ := gd_e h
        refine xw_iald C 2 1 rfl rfl hb4 d_Mod_read_26 ?_
        refine xw_icmp_lt C d_Mod_read_27 (tgt := 32) (by decide) (fun hc11 => ?_) (fun hc11 => ?_)
        · replace h := it_t hc11 h
          refine xw_aload_n C d_Mod_read_32 0 rfl ?_
          refine xw_get C F_Mod_ok 0 rfl rfl 1 (by decide) T_474 rfl d_Mod_read_33 ?_
          refine xw_aload_n C d_Mod_read_36 0 rfl ?_
          refine xw_iload_n C d_Mod_read_37 1 rfl ?_
          refine xw_iload_n C d_Mod_read_38 2 rfl ?_
          refine xw_iconst C d_Mod_read_39 (v := 4) (by decide) ?_
          refine xw_idiv C d_Mod_read_40 (by decide) ?_
          obtain ⟨r7, s6, hc5, h⟩ := bd_e h
          refine xw_callV_i C tj_Tg tj_Ng (n := 2) (As := [.int a1, .int (a2 / (4 : Int32))]) (rest := [.ref (q 2)]) (c_Mod_cell hc5) T_608 T_605 T_6 T_607 S_36 0 rfl rfl rfl (by decide +kernel) (by decide) rfl rfl (Nat.le_of_ble_eq_true rfl) d_Mod_read_41 ?_
          obtain ⟨hb8, h⟩ := gd_e h
          refine xw_iald C 2 1 rfl rfl hb8 d_Mod_read_44 ?_
          refine xw_ni h (fun x9 h => ?_)
          refine xw_istore_n C d_Mod_read_45 rfl (by decide) (lv1 := [(3, .int x9), (0, .ref (q 0)), (1, .int a1), (2, .int a2)]) rfl ?_
          refine xw_aload_n C d_Mod_read_46 1 rfl ?_
          refine xw_get C F_Mod_ok 0 rfl rfl 1 (by decide) T_474 rfl d_Mod_read_47 ?_
          refine xw_iconst C d_Mod_read_50 (v := 4) (by decide) ?_
          refine xw_iload_n C d_Mod_read_51 0 rfl ?_
          refine xw_imul C d_Mod_read_52 ?_
          refine xw_iload_n C d_Mod_read_53 3 rfl ?_
          refine xw_iconst C d_Mod_read_54 (v := 4) (by decide) ?_
          refine xw_irem C d_Mod_read_55 (by decide) ?_
          refine xw_iadd C d_Mod_read_56 ?_
          obtain ⟨hb10, h⟩ := gd_e h
          refine xw_iald C 2 1 rfl rfl hb10 d_Mod_read_57 ?_
          exact fin _ _ _ _ h d_Mod_read_58 rfl
        · replace h := it_f hc11 h
          refine xw_iconst C d_Mod_read_30 (v := 0) (by decide) ?_
          exact fin _ _ _ _ h d_Mod_read_31 rfl
def f_Mod_length (a1 : Int32) (s0 : tj_S) : Option (Int32 × tj_S) :=
  if (s0 0 12) = (0 : Int32) then
    some ((-1 : Int32), s0)
  else
    bd (f_Mod_file a1 s0) fun r3 s2 =>
    if r3 = (0 : Int32) then
      some ((-1 : Int32), s2)
    else
      gd (inb ((4 : Int32) * a1) 92) <|
      some ((s2 2 (Int32.toNatClampNeg ((4 : Int32) * a1))), s2)
set_option maxRecDepth 100000 in
set_option maxHeartbeats 4000000 in
theorem c_Mod_length {l : Launch} {D : va_G} {K : Nat → ClassId} {q : Nat → Nat} {a1 : Int32} {s0 sE : tj_S} {rE : Int32} (h : f_Mod_length a1 s0 = some (rE, sE)) : tj_Mi l D tj_cls (M_tys K) tj_N tj_T (M_cw K q) y_Mod_length b_Mod_length 2 .int 1 20 [.ref (q 0), .int a1] s0 rE sE := by
  refine tj_start_i (by decide +kernel) (Nat.le_of_ble_eq_true rfl) (fun Γ C fin => ?_)
  show tj_W Γ (M_cw K q) s0 [(0, .ref (q 0)), (1, .int a1)] 0 []
  unfold f_Mod_length at h
  refine xw_aload_n C d_Mod_length_0 0 rfl ?_
  refine xw_get C F_Mod_ok 0 rfl rfl 12 (by decide) T_485 rfl d_Mod_length_1 ?_
  refine xw_if_eq C d_Mod_length_4 (tgt := 25) (by decide) (fun hc6 => ?_) (fun hc6 => ?_)
  · replace h := it_t hc6 h
    refine xw_iconst C d_Mod_length_25 (v := -1) (by decide) ?_
    exact fin _ _ _ _ h d_Mod_length_26 rfl
  · replace h := it_f hc6 h
    refine xw_iload_n C d_Mod_length_7 1 rfl ?_
    obtain ⟨r3, s2, hc1, h⟩ := bd_e h
    refine xw_callS_i C tj_Tg tj_Ng (n := 1) (As := [.int a1]) (rest := []) (c_Mod_file hc1) T_532 T_530 T_6 T_531 (by decide +kernel) (by decide) rfl rfl (Nat.le_of_ble_eq_true rfl) d_Mod_length_8 ?_
    refine xw_if_eq C d_Mod_length_11 (tgt := 25) (by decide) (fun hc5 => ?_) (fun hc5 => ?_)
    · replace h := it_t hc5 h
      refine xw_iconst C d_Mod_length_25 (v := -1) (by decide) ?_
      exact fin _ _ _ _ h d_Mod_length_26 rfl
    · replace h := it_f hc5 h
      refine xw_aload_n C d_Mod_length_14 0 rfl ?_
      refine xw_get C F_Mod_ok 0 rfl rfl 1 (by decide) T_474 rfl d_Mod_length_15 ?_
      refine xw_iconst C d_Mod_length_18 (v := 4) (by decide) ?_
      refine xw_iload_n C d_Mod_length_19 1 rfl ?_
      refine xw_imul C d_Mod_length_20 ?_
      obtain ⟨hb4, h⟩ := gd_e h
      refine xw_iald C 2 1 rfl rfl hb4 d_Mod_length_21 ?_
      refine xw_goto C d_Mod_length_22 (tgt := 26) (by decide) ?_
      exact fin _ _ _ _ h d_Mod_length_26 rfl
def f_Mod_commit (s0 : tj_S) : Option (Int32 × tj_S) :=
  if (s0 0 12) = (0 : Int32) then
    some ((-1 : Int32), s0)
  else
    bd (f_Mod_seal s0) fun r3 s2 =>
    some (r3, s2)
set_option maxRecDepth 100000 in
set_option maxHeartbeats 4000000 in
theorem c_Mod_commit {l : Launch} {D : va_G} {K : Nat → ClassId} {q : Nat → Nat} {s0 sE : tj_S} {rE : Int32} (h : f_Mod_commit s0 = some (rE, sE)) : tj_Mi l D tj_cls (M_tys K) tj_N tj_T (M_cw K q) y_Mod_commit b_Mod_commit 1 .int 5 110 [.ref (q 0)] s0 rE sE := by
  refine tj_start_i (by decide +kernel) (Nat.le_of_ble_eq_true rfl) (fun Γ C fin => ?_)
  show tj_W Γ (M_cw K q) s0 [(0, .ref (q 0))] 0 []
  unfold f_Mod_commit at h
  refine xw_aload_n C d_Mod_commit_0 0 rfl ?_
  refine xw_get C F_Mod_ok 0 rfl rfl 12 (by decide) T_485 rfl d_Mod_commit_1 ?_
  refine xw_if_eq C d_Mod_commit_4 (tgt := 14) (by decide) (fun hc4 => ?_) (fun hc4 => ?_)
  · replace h := it_t hc4 h
    refine xw_iconst C d_Mod_commit_14 (v := -1) (by decide) ?_
    exact fin _ _ _ _ h d_Mod_commit_15 rfl
  · replace h := it_f hc4 h
    refine xw_aload_n C d_Mod_commit_7 0 rfl ?_
    obtain ⟨r3, s2, hc1, h⟩ := bd_e h
    refine xw_callV_i C tj_Tg tj_Ng (n := 0) (As := []) (rest := []) (c_Mod_seal hc1) T_556 T_553 T_6 T_555 S_23 0 rfl rfl rfl (by decide +kernel) (by decide) rfl rfl (Nat.le_of_ble_eq_true rfl) d_Mod_commit_8 ?_
    refine xw_goto C d_Mod_commit_11 (tgt := 15) (by decide) ?_
    exact fin _ _ _ _ h d_Mod_commit_15 rfl
