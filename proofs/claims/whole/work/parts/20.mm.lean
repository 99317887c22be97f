def f_Mod_file (a0 : Int32) (s0 : tj_S) : Option (Int32 × tj_S) :=
  if a0 < (0 : Int32) then
    some ((0 : Int32), s0)
  else
    if (5 : Int32) < a0 then
      some ((0 : Int32), s0)
    else
      some ((1 : Int32), s0)
set_option maxRecDepth 100000 in
set_option maxHeartbeats 4000000 in
theorem c_Mod_file {l : Launch} {D : va_G} {K : Nat → ClassId} {q : Nat → Nat} {a0 : Int32} {s0 sE : tj_S} {rE : Int32} (h : f_Mod_file a0 s0 = some (rE, sE)) : tj_Mi l D tj_cls (M_tys K) tj_N tj_T (M_cw K q) y_Mod_file b_Mod_file 1 .boolean 0 0 [.int a0] s0 rE sE := by
  refine tj_start_i (by decide +kernel) (Nat.le_of_ble_eq_true rfl) (fun Γ C fin => ?_)
  show tj_W Γ (M_cw K q) s0 [(0, .int a0)] 0 []
  unfold f_Mod_file at h
  refine xw_iload_n C d_Mod_file_0 0 rfl ?_
  refine xw_if_lt C d_Mod_file_1 (tgt := 13) (by decide) (fun hc2 => ?_) (fun hc2 => ?_)
  · replace h := it_t hc2 h
    refine xw_iconst C d_Mod_file_13 (v := 0) (by decide) ?_
    exact fin _ _ _ _ h d_Mod_file_14 rfl
  · replace h := it_f hc2 h
    refine xw_iload_n C d_Mod_file_4 0 rfl ?_
    refine xw_iconst C d_Mod_file_5 (v := 5) (by decide) ?_
    refine xw_icmp_gt C d_Mod_file_6 (tgt := 13) (by decide) (fun hc1 => ?_) (fun hc1 => ?_)
    · replace h := it_t hc1 h
      refine xw_iconst C d_Mod_file_13 (v := 0) (by decide) ?_
      exact fin _ _ _ _ h d_Mod_file_14 rfl
    · replace h := it_f hc1 h
      refine xw_iconst C d_Mod_file_9 (v := 1) (by decide) ?_
      refine xw_goto C d_Mod_file_10 (tgt := 14) (by decide) ?_
      exact fin _ _ _ _ h d_Mod_file_14 rfl
def f_Mod_used_L57 (y9 y10 y11 : Int32) (k : Int32 → tj_S → Option (Int32 × tj_S)) : Nat → Int32 → tj_S → Option (Int32 × tj_S)
  | 0, _, _ => none
  | n + 1, x8, s12 =>
    if (4 : Int32) ≤ x8 then
      k x8 s12
    else
      if y11 ≤ (0 : Int32) then
        k x8 s12
      else
        gd (inb (((4 : Int32) * y11) + x8) 92) <|
        if (s12 2 (Int32.toNatClampNeg (((4 : Int32) * y11) + x8))) = y9 then
          some ((1 : Int32), s12)
        else
          nm (x8 + Int32.ofInt 1) fun x14 =>
          f_Mod_used_L57 y9 y10 y11 k n x14 s12
def f_Mod_used_L2 (y2 : Int32) (k : Int32 → tj_S → Option (Int32 × tj_S)) : Nat → Int32 → tj_S → Option (Int32 × tj_S)
  | 0, _, _ => none
  | n + 1, x1, s3 =>
    if (6 : Int32) ≤ x1 then
      k x1 s3
    else
      gd (inb (((4 : Int32) * x1) + (3 : Int32)) 92) <|
      nm ((s3 2 (Int32.toNatClampNeg (((4 : Int32) * x1) + (3 : Int32))))) fun x5 =>
      if x5 = y2 then
        some ((1 : Int32), s3)
      else
        gd (inb (((4 : Int32) * x1) + (1 : Int32)) 92) <|
        if (s3 2 (Int32.toNatClampNeg (((4 : Int32) * x1) + (1 : Int32)))) = y2 then
          some ((1 : Int32), s3)
        else
          gd (inb (((4 : Int32) * x1) + (2 : Int32)) 92) <|
          if (s3 2 (Int32.toNatClampNeg (((4 : Int32) * x1) + (2 : Int32)))) = y2 then
            some ((1 : Int32), s3)
          else
            f_Mod_used_L57 y2 x1 x5 (fun x20 s21 =>
              nm (x1 + Int32.ofInt 1) fun x22 =>
              f_Mod_used_L2 y2 k n x22 s21) 100 (0 : Int32) s3
def f_Mod_used (a1 : Int32) (s0 : tj_S) : Option (Int32 × tj_S) :=
  f_Mod_used_L2 a1 (fun x29 s30 =>
    some ((0 : Int32), s30)) 100 (0 : Int32) s0
set_option maxRecDepth 100000 in
set_option maxHeartbeats 4000000 in
theorem c_Mod_used {l : Launch} {D : va_G} {K : Nat → ClassId} {q : Nat → Nat} {a1 : Int32} {s0 sE : tj_S} {rE : Int32} (h : f_Mod_used a1 s0 = some (rE, sE)) : tj_Mi l D tj_cls (M_tys K) tj_N tj_T (M_cw K q) y_Mod_used b_Mod_used 5 .boolean 0 0 [.ref (q 0), .int a1] s0 rE sE := by
  refine tj_start_i (by decide +kernel) (Nat.le_of_ble_eq_true rfl) (fun Γ C fin => ?_)
  show tj_W Γ (M_cw K q) s0 [(0, .ref (q 0)), (1, .int a1)] 0 []
  have L57 : ∀ (y9 y10 y11 : Int32) (k : Int32 → tj_S → Option (Int32 × tj_S)), (∀ (x18 : Int32) (s19 : tj_S), k x18 s19 = some (rE, sE) → tj_W Γ (M_cw K q) s19 [(0, .ref (q 0)), (1, .int y9), (2, .int y10), (3, .int y11), (4, .int x18)] 90 []) → ∀ (n : Nat) (x8 : Int32) (s12 : tj_S), f_Mod_used_L57 y9 y10 y11 k n x8 s12 = some (rE, sE) → tj_W Γ (M_cw K q) s12 [(0, .ref (q 0)), (1, .int y9), (2, .int y10), (3, .int y11), (4, .int x8)] 57 [] := by
    intro y9 y10 y11 k hk n
    induction n with
    | zero => intro x8 s12 h; rw [f_Mod_used_L57] at h; cases h
    | succ n ih =>
      intro x8 s12 h
      rw [f_Mod_used_L57] at h
      refine xw_iload C d_Mod_used_57 4 rfl ?_
      refine xw_iconst C d_Mod_used_59 (v := 4) (by decide) ?_
      refine xw_icmp_ge C d_Mod_used_60 (tgt := 90) (by decide) (fun hc17 => ?_) (fun hc17 => ?_)
      · replace h := it_t hc17 h
        exact xw_lv [0, 1, 2, 3, 4] rfl (hk _ _ h)
      · replace h := it_f hc17 h
        refine xw_iload_n C d_Mod_used_63 3 rfl ?_
        refine xw_if_le C d_Mod_used_64 (tgt := 90) (by decide) (fun hc16 => ?_) (fun hc16 => ?_)
        · replace h := it_t hc16 h
          exact xw_lv [0, 1, 2, 3, 4] rfl (hk _ _ h)
        · replace h := it_f hc16 h
          refine xw_aload_n C d_Mod_used_67 0 rfl ?_
          refine xw_get C F_Mod_ok 0 rfl rfl 1 (by decide) T_474 rfl d_Mod_used_68 ?_
          refine xw_iconst C d_Mod_used_71 (v := 4) (by decide) ?_
          refine xw_iload_n C d_Mod_used_72 3 rfl ?_
          refine xw_imul C d_Mod_used_73 ?_
          refine xw_iload C d_Mod_used_74 4 rfl ?_
          refine xw_iadd C d_Mod_used_76 ?_
          obtain ⟨hb13, h⟩ := gd_e h
          refine xw_iald C 2 1 rfl rfl hb13 d_Mod_used_77 ?_
          refine xw_iload_n C d_Mod_used_78 1 rfl ?_
          refine xw_icmp_ne C d_Mod_used_79 (tgt := 84) (by decide) (fun hc15 => ?_) (fun hc15 => ?_)
          · replace h := it_f hc15 h
            refine xw_iinc C h (fun v => [(4, .int v), (0, .ref (q 0)), (1, .int y9), (2, .int y10), (3, .int y11)]) d_Mod_used_84 4 rfl (by decide) (fun _ => rfl) (fun x14 h => ?_)
            refine xw_goto C d_Mod_used_87 (tgt := 57) (by decide) ?_
            exact xw_lv [1, 2, 3, 4, 0] rfl (ih _ _ h)
          · replace h := it_t hc15 h
            refine xw_iconst C d_Mod_used_82 (v := 1) (by decide) ?_
            exact fin _ _ _ _ h d_Mod_used_83 rfl
  have L2 : ∀ (y2 : Int32) (k : Int32 → tj_S → Option (Int32 × tj_S)), (∀ (x27 : Int32) (s28 : tj_S), k x27 s28 = some (rE, sE) → tj_W Γ (M_cw K q) s28 [(0, .ref (q 0)), (1, .int y2), (2, .int x27)] 96 []) → ∀ (n : Nat) (x1 : Int32) (s3 : tj_S), f_Mod_used_L2 y2 k n x1 s3 = some (rE, sE) → tj_W Γ (M_cw K q) s3 [(0, .ref (q 0)), (1, .int y2), (2, .int x1)] 2 [] := by
    intro y2 k hk n
    induction n with
    | zero => intro x1 s3 h; rw [f_Mod_used_L2] at h; cases h
    | succ n ih =>
      intro x1 s3 h
      rw [f_Mod_used_L2] at h
      refine xw_iload_n C d_Mod_used_2 2 rfl ?_
      refine xw_bipush C d_Mod_used_3 (v := 6) (by decide) ?_
      refine xw_icmp_ge C d_Mod_used_5 (tgt := 96) (by decide) (fun hc26 => ?_) (fun hc26 => ?_)
      · replace h := it_t hc26 h
        exact xw_lv [0, 1, 2] rfl (hk _ _ h)
      · replace h := it_f hc26 h
        refine xw_aload_n C d_Mod_used_8 0 rfl ?_
        refine xw_get C F_Mod_ok 0 rfl rfl 1 (by decide) T_474 rfl d_Mod_used_9 ?_
        refine xw_iconst C d_Mod_used_12 (v := 4) (by decide) ?_
        refine xw_iload_n C d_Mod_used_13 2 rfl ?_
        refine xw_imul C d_Mod_used_14 ?_
        refine xw_iconst C d_Mod_used_15 (v := 3) (by decide) ?_
        refine xw_iadd C d_Mod_used_16 ?_
        obtain ⟨hb4, h⟩ := gd_e h
        refine xw_iald C 2 1 rfl rfl hb4 d_Mod_used_17 ?_
        refine xw_ni h (fun x5 h => ?_)
        refine xw_istore_n C d_Mod_used_18 rfl (by decide) (lv1 := [(3, .int x5), (0, .ref (q 0)), (1, .int y2), (2, .int x1)]) rfl ?_
        refine xw_iload_n C d_Mod_used_19 0 rfl ?_
        refine xw_iload_n C d_Mod_used_20 2 rfl ?_
        refine xw_icmp_eq C d_Mod_used_21 (tgt := 52) (by decide) (fun hc25 => ?_) (fun hc25 => ?_)
        · replace h := it_t hc25 h
          refine xw_iconst C d_Mod_used_52 (v := 1) (by decide) ?_
          exact fin _ _ _ _ h d_Mod_used_53 rfl
        · replace h := it_f hc25 h
          refine xw_aload_n C d_Mod_used_24 1 rfl ?_
          refine xw_get C F_Mod_ok 0 rfl rfl 1 (by decide) T_474 rfl d_Mod_used_25 ?_
          refine xw_iconst C d_Mod_used_28 (v := 4) (by decide) ?_
          refine xw_iload_n C d_Mod_used_29 3 rfl ?_
          refine xw_imul C d_Mod_used_30 ?_
          refine xw_iconst C d_Mod_used_31 (v := 1) (by decide) ?_
          refine xw_iadd C d_Mod_used_32 ?_
          obtain ⟨hb6, h⟩ := gd_e h
          refine xw_iald C 2 1 rfl rfl hb6 d_Mod_used_33 ?_
          refine xw_iload_n C d_Mod_used_34 2 rfl ?_
          refine xw_icmp_eq C d_Mod_used_35 (tgt := 52) (by decide) (fun hc24 => ?_) (fun hc24 => ?_)
          · replace h := it_t hc24 h
            refine xw_iconst C d_Mod_used_52 (v := 1) (by decide) ?_
            exact fin _ _ _ _ h d_Mod_used_53 rfl
          · replace h := it_f hc24 h
            refine xw_aload_n C d_Mod_used_38 1 rfl ?_
            refine xw_get C F_Mod_ok 0 rfl rfl 1 (by decide) T_474 rfl d_Mod_used_39 ?_
            refine xw_iconst C d_Mod_used_42 (v := 4) (by decide) ?_
            refine xw_iload_n C d_Mod_used_43 3 rfl ?_
            refine xw_imul C d_Mod_used_44 ?_
            refine xw_iconst C d_Mod_used_45 (v := 2) (by decide) ?_
            refine xw_iadd C d_Mod_used_46 ?_
            obtain ⟨hb7, h⟩ := gd_e h
            refine xw_iald C 2 1 rfl rfl hb7 d_Mod_used_47 ?_
            refine xw_iload_n C d_Mod_used_48 2 rfl ?_
            refine xw_icmp_ne C d_Mod_used_49 (tgt := 54) (by decide) (fun hc23 => ?_) (fun hc23 => ?_)
            · replace h := it_f hc23 h
              refine xw_iconst C d_Mod_used_54 (v := 0) (by decide) ?_
              refine xw_istore C d_Mod_used_55 (by decide) (lv1 := [(4, .int (0 : Int32)), (3, .int x5), (0, .ref (q 0)), (1, .int y2), (2, .int x1)]) rfl ?_
              refine xw_lv [2, 3, 4, 1, 0] rfl (L57 _ _ _ _ (fun x20 s21 h => ?_) 100 _ _ h)
              refine xw_iinc C h (fun v => [(2, .int v), (0, .ref (q 0)), (1, .int y2), (3, .int x5), (4, .int x20)]) d_Mod_used_90 2 rfl (by decide) (fun _ => rfl) (fun x22 h => ?_)
              refine xw_goto C d_Mod_used_93 (tgt := 2) (by decide) ?_
              exact xw_lv [1, 2, 0] rfl (ih _ _ h)
            · replace h := it_t hc23 h
              refine xw_iconst C d_Mod_used_52 (v := 1) (by decide) ?_
              exact fin _ _ _ _ h d_Mod_used_53 rfl
  unfold f_Mod_used at h
  refine xw_iconst C d_Mod_used_0 (v := 0) (by decide) ?_
  refine xw_istore_n C d_Mod_used_1 rfl (by decide) (lv1 := [(2, .int (0 : Int32)), (0, .ref (q 0)), (1, .int a1)]) rfl ?_
  refine xw_lv [1, 2, 0] rfl (L2 _ _ (fun x29 s30 h => ?_) 100 _ _ h)
  refine xw_iconst C d_Mod_used_96 (v := 0) (by decide) ?_
  exact fin _ _ _ _ h d_Mod_used_97 rfl
def f_Mod_open (a1 : Int32) (s0 : tj_S) : Option (Int32 × tj_S) :=
  bd (f_Mod_used a1 s0) fun r3 s2 =>
  if r3 = (0 : Int32) then
    if (((s2 0 16) >>> ((a1 - (7 : Int32)) &&& 31)) &&& (1 : Int32)) = (0 : Int32) then
      some ((1 : Int32), s2)
    else
      some ((0 : Int32), s2)
  else
    some ((0 : Int32), s2)
set_option maxRecDepth 100000 in
set_option maxHeartbeats 4000000 in
theorem c_Mod_open {l : Launch} {D : va_G} {K : Nat → ClassId} {q : Nat → Nat} {a1 : Int32} {s0 sE : tj_S} {rE : Int32} (h : f_Mod_open a1 s0 = some (rE, sE)) : tj_Mi l D tj_cls (M_tys K) tj_N tj_T (M_cw K q) y_Mod_open b_Mod_open 2 .boolean 1 24 [.ref (q 0), .int a1] s0 rE sE := by
  refine tj_start_i (by decide +kernel) (Nat.le_of_ble_eq_true rfl) (fun Γ C fin => ?_)
  show tj_W Γ (M_cw K q) s0 [(0, .ref (q 0)), (1, .int a1)] 0 []
  unfold f_Mod_open at h
  refine xw_aload_n C d_Mod_open_0 0 rfl ?_
  refine xw_iload_n C d_Mod_open_1 1 rfl ?_
  obtain ⟨r3, s2, hc1, h⟩ := bd_e h
  refine xw_callV_i C tj_Tg tj_Ng (n := 1) (As := [.int a1]) (rest := []) (c_Mod_used hc1) T_544 T_541 T_6 T_543 S_20 0 rfl rfl rfl (by decide +kernel) (by decide) rfl rfl (Nat.le_of_ble_eq_true rfl) d_Mod_open_2 ?_
  refine xw_if_ne C d_Mod_open_5 (tgt := 26) (by decide) (fun hc5 => ?_) (fun hc5 => ?_)
  · replace h := it_f hc5 h
    refine xw_iconst C d_Mod_open_26 (v := 0) (by decide) ?_
    exact fin _ _ _ _ h d_Mod_open_27 rfl
  · replace h := it_t hc5 h
    refine xw_aload_n C d_Mod_open_8 0 rfl ?_
    refine xw_get C F_Mod_ok 0 rfl rfl 16 (by decide) T_489 rfl d_Mod_open_9 ?_
    refine xw_iload_n C d_Mod_open_12 1 rfl ?_
    refine xw_bipush C d_Mod_open_13 (v := 7) (by decide) ?_
    refine xw_isub C d_Mod_open_15 ?_
    refine xw_ishr C d_Mod_open_16 ?_
    refine xw_iconst C d_Mod_open_17 (v := 1) (by decide) ?_
    refine xw_iand C d_Mod_open_18 ?_
    refine xw_if_ne C d_Mod_open_19 (tgt := 26) (by decide) (fun hc4 => ?_) (fun hc4 => ?_)
    · replace h := it_f hc4 h
      refine xw_iconst C d_Mod_open_26 (v := 0) (by decide) ?_
      exact fin _ _ _ _ h d_Mod_open_27 rfl
    · replace h := it_t hc4 h
      refine xw_iconst C d_Mod_open_22 (v := 1) (by decide) ?_
      refine xw_goto C d_Mod_open_23 (tgt := 27) (by decide) ?_
      exact fin _ _ _ _ h d_Mod_open_27 rfl
def f_Mod_opens_L5 (k : Int32 → Int32 → tj_S → Option (Int32 × tj_S)) : Nat → Int32 → Int32 → tj_S → Option (Int32 × tj_S)
  | 0, _, _, _ => none
  | n + 1, x1, x2, s3 =>
    if (23 : Int32) ≤ x2 then
      k x1 x2 s3
    else
      bd (f_Mod_open x2 s3) fun r6 s5 =>
      if r6 = (0 : Int32) then
        nm (x2 + Int32.ofInt 1) fun x7 =>
        f_Mod_opens_L5 k n x1 x7 s5
      else
        nm ((x1 + (1 : Int32))) fun x8 =>
        nm (x2 + Int32.ofInt 1) fun x9 =>
        f_Mod_opens_L5 k n x8 x9 s5
def f_Mod_opens (s0 : tj_S) : Option (Int32 × tj_S) :=
  f_Mod_opens_L5 (fun x15 x16 s17 =>
    some (x15, s17)) 100 (0 : Int32) (7 : Int32) s0
set_option maxRecDepth 100000 in
set_option maxHeartbeats 4000000 in
theorem c_Mod_opens {l : Launch} {D : va_G} {K : Nat → ClassId} {q : Nat → Nat} {s0 sE : tj_S} {rE : Int32} (h : f_Mod_opens s0 = some (rE, sE)) : tj_Mi l D tj_cls (M_tys K) tj_N tj_T (M_cw K q) y_Mod_opens b_Mod_opens 3 .int 2 45 [.ref (q 0)] s0 rE sE := by
  refine tj_start_i (by decide +kernel) (Nat.le_of_ble_eq_true rfl) (fun Γ C fin => ?_)
  show tj_W Γ (M_cw K q) s0 [(0, .ref (q 0))] 0 []
  have L5 : ∀ (k : Int32 → Int32 → tj_S → Option (Int32 × tj_S)), (∀ (x12 x13 : Int32) (s14 : tj_S), k x12 x13 s14 = some (rE, sE) → tj_W Γ (M_cw K q) s14 [(0, .ref (q 0)), (1, .int x12), (2, .int x13)] 33 []) → ∀ (n : Nat) (x1 x2 : Int32) (s3 : tj_S), f_Mod_opens_L5 k n x1 x2 s3 = some (rE, sE) → tj_W Γ (M_cw K q) s3 [(0, .ref (q 0)), (1, .int x1), (2, .int x2)] 5 [] := by
    intro k hk n
    induction n with
    | zero => intro x1 x2 s3 h; rw [f_Mod_opens_L5] at h; cases h
    | succ n ih =>
      intro x1 x2 s3 h
      rw [f_Mod_opens_L5] at h
      refine xw_iload_n C d_Mod_opens_5 2 rfl ?_
      refine xw_bipush C d_Mod_opens_6 (v := 23) (by decide) ?_
      refine xw_icmp_ge C d_Mod_opens_8 (tgt := 33) (by decide) (fun hc11 => ?_) (fun hc11 => ?_)
      · replace h := it_t hc11 h
        exact xw_lv [0, 1, 2] rfl (hk _ _ _ h)
      · replace h := it_f hc11 h
        refine xw_aload_n C d_Mod_opens_11 0 rfl ?_
        refine xw_iload_n C d_Mod_opens_12 2 rfl ?_
        obtain ⟨r6, s5, hc4, h⟩ := bd_e h
        refine xw_callV_i C tj_Tg tj_Ng (n := 1) (As := [.int x2]) (rest := []) (c_Mod_open hc4) T_540 T_537 T_6 T_539 S_19 0 rfl rfl rfl (by decide +kernel) (by decide) rfl rfl (Nat.le_of_ble_eq_true rfl) d_Mod_opens_13 ?_
        refine xw_if_eq C d_Mod_opens_16 (tgt := 25) (by decide) (fun hc10 => ?_) (fun hc10 => ?_)
        · replace h := it_t hc10 h
          refine xw_iload_n C d_Mod_opens_25 1 rfl ?_
          refine xw_istore_n C d_Mod_opens_26 rfl (by decide) (lv1 := [(1, .int x1), (0, .ref (q 0)), (2, .int x2)]) rfl ?_
          refine xw_iinc C h (fun v => [(2, .int v), (1, .int x1), (0, .ref (q 0))]) d_Mod_opens_27 2 rfl (by decide) (fun _ => rfl) (fun x7 h => ?_)
          refine xw_goto C d_Mod_opens_30 (tgt := 5) (by decide) ?_
          exact xw_lv [2, 1, 0] rfl (ih _ _ _ h)
        · replace h := it_f hc10 h
          refine xw_iload_n C d_Mod_opens_19 1 rfl ?_
          refine xw_iconst C d_Mod_opens_20 (v := 1) (by decide) ?_
          refine xw_iadd C d_Mod_opens_21 ?_
          refine xw_goto C d_Mod_opens_22 (tgt := 26) (by decide) ?_
          refine xw_ni h (fun x8 h => ?_)
          refine xw_istore_n C d_Mod_opens_26 rfl (by decide) (lv1 := [(1, .int x8), (0, .ref (q 0)), (2, .int x2)]) rfl ?_
          refine xw_iinc C h (fun v => [(2, .int v), (1, .int x8), (0, .ref (q 0))]) d_Mod_opens_27 2 rfl (by decide) (fun _ => rfl) (fun x9 h => ?_)
          refine xw_goto C d_Mod_opens_30 (tgt := 5) (by decide) ?_
          exact xw_lv [2, 1, 0] rfl (ih _ _ _ h)
  unfold f_Mod_opens at h
  refine xw_iconst C d_Mod_opens_0 (v := 0) (by decide) ?_
  refine xw_istore_n C d_Mod_opens_1 rfl (by decide) (lv1 := [(1, .int (0 : Int32)), (0, .ref (q 0))]) rfl ?_
  refine xw_bipush C d_Mod_opens_2 (v := 7) (by decide) ?_
  refine xw_istore_n C d_Mod_opens_4 rfl (by decide) (lv1 := [(2, .int (7 : Int32)), (1, .int (0 : Int32)), (0, .ref (q 0))]) rfl ?_
  refine xw_lv [2, 1, 0] rfl (L5 _ (fun x15 x16 s17 h => ?_) 100 _ _ _ h)
  refine xw_iload_n C d_Mod_opens_33 1 rfl ?_
  exact fin _ _ _ _ h d_Mod_opens_34 rfl
def f_Mod_needs_L6 (k : Int32 → Int32 → Int32 → tj_S → Option (Int32 × tj_S)) : Nat → Int32 → Int32 → Int32 → tj_S → Option (Int32 × tj_S)
  | 0, _, _, _, _ => none
  | n + 1, x1, x2, x3, s4 =>
    if (23 : Int32) ≤ x3 then
      k x1 x2 x3 s4
    else
      gd (inb x3 23) <|
      if (s4 3 (Int32.toNatClampNeg x3)) = (0 : Int32) then
        gd (inb x3 23) <|
        if (s4 4 (Int32.toNatClampNeg x3)) = (0 : Int32) then
          nm (x3 + Int32.ofInt 1) fun x7 =>
          f_Mod_needs_L6 k n x1 x2 x7 s4
        else
          nm ((x2 + (1 : Int32))) fun x8 =>
          nm (x3 + Int32.ofInt 1) fun x9 =>
          f_Mod_needs_L6 k n x1 x8 x9 s4
      else
        nm ((x1 + (1 : Int32))) fun x11 =>
        gd (inb x3 23) <|
        if (s4 4 (Int32.toNatClampNeg x3)) = (0 : Int32) then
          nm (x3 + Int32.ofInt 1) fun x13 =>
          f_Mod_needs_L6 k n x11 x2 x13 s4
        else
          nm ((x2 + (1 : Int32))) fun x14 =>
          nm (x3 + Int32.ofInt 1) fun x15 =>
          f_Mod_needs_L6 k n x11 x14 x15 s4
def f_Mod_needs (s0 : tj_S) : Option (Int32 × tj_S) :=
  f_Mod_needs_L6 (fun x23 x24 x25 s26 =>
    if x23 = (0 : Int32) then
      some ((0 : Int32), s26)
    else
      some ((((x23 + ((x23 + (3 : Int32)) / (4 : Int32))) + ((x24 + (3 : Int32)) / (4 : Int32))) + (1 : Int32)), s26)) 100 (0 : Int32) (0 : Int32) (0 : Int32) s0
set_option maxRecDepth 100000 in
set_option maxHeartbeats 4000000 in
theorem c_Mod_needs {l : Launch} {D : va_G} {K : Nat → ClassId} {q : Nat → Nat} {s0 sE : tj_S} {rE : Int32} (h : f_Mod_needs s0 = some (rE, sE)) : tj_Mi l D tj_cls (M_tys K) tj_N tj_T (M_cw K q) y_Mod_needs b_Mod_needs 4 .int 0 0 [.ref (q 0)] s0 rE sE := by
  refine tj_start_i (by decide +kernel) (Nat.le_of_ble_eq_true rfl) (fun Γ C fin => ?_)
  show tj_W Γ (M_cw K q) s0 [(0, .ref (q 0))] 0 []
  have L6 : ∀ (k : Int32 → Int32 → Int32 → tj_S → Option (Int32 × tj_S)), (∀ (x19 x20 x21 : Int32) (s22 : tj_S), k x19 x20 x21 s22 = some (rE, sE) → tj_W Γ (M_cw K q) s22 [(0, .ref (q 0)), (1, .int x19), (2, .int x20), (3, .int x21)] 52 []) → ∀ (n : Nat) (x1 x2 x3 : Int32) (s4 : tj_S), f_Mod_needs_L6 k n x1 x2 x3 s4 = some (rE, sE) → tj_W Γ (M_cw K q) s4 [(0, .ref (q 0)), (1, .int x1), (2, .int x2), (3, .int x3)] 6 [] := by
    intro k hk n
    induction n with
    | zero => intro x1 x2 x3 s4 h; rw [f_Mod_needs_L6] at h; cases h
    | succ n ih =>
      intro x1 x2 x3 s4 h
      rw [f_Mod_needs_L6] at h
      refine xw_iload_n C d_Mod_needs_6 3 rfl ?_
      refine xw_bipush C d_Mod_needs_7 (v := 23) (by decide) ?_
      refine xw_icmp_ge C d_Mod_needs_9 (tgt := 52) (by decide) (fun hc18 => ?_) (fun hc18 => ?_)
      · replace h := it_t hc18 h
        exact xw_lv [0, 1, 2, 3] rfl (hk _ _ _ _ h)
      · replace h := it_f hc18 h
        refine xw_aload_n C d_Mod_needs_12 0 rfl ?_
        refine xw_get C F_Mod_ok 0 rfl rfl 2 (by decide) T_475 rfl d_Mod_needs_13 ?_
        refine xw_iload_n C d_Mod_needs_16 3 rfl ?_
        obtain ⟨hb5, h⟩ := gd_e h
        refine xw_zald C 3 2 rfl rfl hb5 d_Mod_needs_17 ?_
        refine xw_if_eq C d_Mod_needs_18 (tgt := 27) (by decide) (fun hc17 => ?_) (fun hc17 => ?_)
        · replace h := it_t hc17 h
          refine xw_iload_n C d_Mod_needs_27 1 rfl ?_
          refine xw_istore_n C d_Mod_needs_28 rfl (by decide) (lv1 := [(1, .int x1), (0, .ref (q 0)), (2, .int x2), (3, .int x3)]) rfl ?_
          refine xw_aload_n C d_Mod_needs_29 1 rfl ?_
          refine xw_get C F_Mod_ok 0 rfl rfl 3 (by decide) T_476 rfl d_Mod_needs_30 ?_
          refine xw_iload_n C d_Mod_needs_33 3 rfl ?_
          obtain ⟨hb6, h⟩ := gd_e h
          refine xw_zald C 4 3 rfl rfl hb6 d_Mod_needs_34 ?_
          refine xw_if_eq C d_Mod_needs_35 (tgt := 44) (by decide) (fun hc10 => ?_) (fun hc10 => ?_)
          · replace h := it_t hc10 h
            refine xw_iload_n C d_Mod_needs_44 2 rfl ?_
            refine xw_istore_n C d_Mod_needs_45 rfl (by decide) (lv1 := [(2, .int x2), (1, .int x1), (0, .ref (q 0)), (3, .int x3)]) rfl ?_
            refine xw_iinc C h (fun v => [(3, .int v), (2, .int x2), (1, .int x1), (0, .ref (q 0))]) d_Mod_needs_46 3 rfl (by decide) (fun _ => rfl) (fun x7 h => ?_)
            refine xw_goto C d_Mod_needs_49 (tgt := 6) (by decide) ?_
            exact xw_lv [3, 2, 1, 0] rfl (ih _ _ _ _ h)
          · replace h := it_f hc10 h
            refine xw_iload_n C d_Mod_needs_38 2 rfl ?_
            refine xw_iconst C d_Mod_needs_39 (v := 1) (by decide) ?_
            refine xw_iadd C d_Mod_needs_40 ?_
            refine xw_goto C d_Mod_needs_41 (tgt := 45) (by decide) ?_
            refine xw_ni h (fun x8 h => ?_)
            refine xw_istore_n C d_Mod_needs_45 rfl (by decide) (lv1 := [(2, .int x8), (1, .int x1), (0, .ref (q 0)), (3, .int x3)]) rfl ?_
            refine xw_iinc C h (fun v => [(3, .int v), (2, .int x8), (1, .int x1), (0, .ref (q 0))]) d_Mod_needs_46 3 rfl (by decide) (fun _ => rfl) (fun x9 h => ?_)
            refine xw_goto C d_Mod_needs_49 (tgt := 6) (by decide) ?_
            exact xw_lv [3, 2, 1, 0] rfl (ih _ _ _ _ h)
        · replace h := it_f hc17 h
          refine xw_iload_n C d_Mod_needs_21 1 rfl ?_
          refine xw_iconst C d_Mod_needs_22 (v := 1) (by decide) ?_
          refine xw_iadd C d_Mod_needs_23 ?_
          refine xw_goto C d_Mod_needs_24 (tgt := 28) (by decide) ?_
          refine xw_ni h (fun x11 h => ?_)
          refine xw_istore_n C d_Mod_needs_28 rfl (by decide) (lv1 := [(1, .int x11), (0, .ref (q 0)), (2, .int x2), (3, .int x3)]) rfl ?_
          refine xw_aload_n C d_Mod_needs_29 1 rfl ?_
          refine xw_get C F_Mod_ok 0 rfl rfl 3 (by decide) T_476 rfl d_Mod_needs_30 ?_
          refine xw_iload_n C d_Mod_needs_33 3 rfl ?_
          obtain ⟨hb12, h⟩ := gd_e h
          refine xw_zald C 4 3 rfl rfl hb12 d_Mod_needs_34 ?_
          refine xw_if_eq C d_Mod_needs_35 (tgt := 44) (by decide) (fun hc16 => ?_) (fun hc16 => ?_)
          · replace h := it_t hc16 h
            refine xw_iload_n C d_Mod_needs_44 2 rfl ?_
            refine xw_istore_n C d_Mod_needs_45 rfl (by decide) (lv1 := [(2, .int x2), (1, .int x11), (0, .ref (q 0)), (3, .int x3)]) rfl ?_
            refine xw_iinc C h (fun v => [(3, .int v), (2, .int x2), (1, .int x11), (0, .ref (q 0))]) d_Mod_needs_46 3 rfl (by decide) (fun _ => rfl) (fun x13 h => ?_)
            refine xw_goto C d_Mod_needs_49 (tgt := 6) (by decide) ?_
            exact xw_lv [3, 2, 1, 0] rfl (ih _ _ _ _ h)
          · replace h := it_f hc16 h
            refine xw_iload_n C d_Mod_needs_38 2 rfl ?_
            refine xw_iconst C d_Mod_needs_39 (v := 1) (by decide) ?_
            refine xw_iadd C d_Mod_needs_40 ?_
            refine xw_goto C d_Mod_needs_41 (tgt := 45) (by decide) ?_
            refine xw_ni h (fun x14 h => ?_)
            refine xw_istore_n C d_Mod_needs_45 rfl (by decide) (lv1 := [(2, .int x14), (1, .int x11), (0, .ref (q 0)), (3, .int x3)]) rfl ?_
            refine xw_iinc C h (fun v => [(3, .int v), (2, .int x14), (1, .int x11), (0, .ref (q 0))]) d_Mod_needs_46 3 rfl (by decide) (fun _ => rfl) (fun x15 h => ?_)
            refine xw_goto C d_Mod_needs_49 (tgt := 6) (by decide) ?_
            exact xw_lv [3, 2, 1, 0] rfl (ih _ _ _ _ h)
  unfold f_Mod_needs at h
  refine xw_iconst C d_Mod_needs_0 (v := 0) (by decide) ?_
  refine xw_istore_n C d_Mod_needs_1 rfl (by decide) (lv1 := [(1, .int (0 : Int32)), (0, .ref (q 0))]) rfl ?_
  refine xw_iconst C d_Mod_needs_2 (v := 0) (by decide) ?_
  refine xw_istore_n C d_Mod_needs_3 rfl (by decide) (lv1 := [(2, .int (0 : Int32)), (1, .int (0 : Int32)), (0, .ref (q 0))]) rfl ?_
  refine xw_iconst C d_Mod_needs_4 (v := 0) (by decide) ?_
  refine xw_istore_n C d_Mod_needs_5 rfl (by decide) (lv1 := [(3, .int (0 : Int32)), (2, .int (0 : Int32)), (1, .int (0 : Int32)), (0, .ref (q 0))]) rfl ?_
  refine xw_lv [3, 2, 1, 0] rfl (L6 _ (fun x23 x24 x25 s26 h => ?_) 100 _ _ _ _ h)
  refine xw_iload_n C d_Mod_needs_52 1 rfl ?_
  refine xw_if_ne C d_Mod_needs_53 (tgt := 60) (by decide) (fun hc27 => ?_) (fun hc27 => ?_)
  · replace h := it_f hc27 h
    refine xw_iload_n C d_Mod_needs_60 1 rfl ?_
    refine xw_iload_n C d_Mod_needs_61 1 rfl ?_
    refine xw_iconst C d_Mod_needs_62 (v := 3) (by decide) ?_
    refine xw_iadd C d_Mod_needs_63 ?_
    refine xw_iconst C d_Mod_needs_64 (v := 4) (by decide) ?_
    refine xw_idiv C d_Mod_needs_65 (by decide) ?_
    refine xw_iadd C d_Mod_needs_66 ?_
    refine xw_iload_n C d_Mod_needs_67 2 rfl ?_
    refine xw_iconst C d_Mod_needs_68 (v := 3) (by decide) ?_
    refine xw_iadd C d_Mod_needs_69 ?_
    refine xw_iconst C d_Mod_needs_70 (v := 4) (by decide) ?_
    refine xw_idiv C d_Mod_needs_71 (by decide) ?_
    refine xw_iadd C d_Mod_needs_72 ?_
    refine xw_iconst C d_Mod_needs_73 (v := 1) (by decide) ?_
    refine xw_iadd C d_Mod_needs_74 ?_
    exact fin _ _ _ _ h d_Mod_needs_75 rfl
  · replace h := it_t hc27 h
    refine xw_iconst C d_Mod_needs_56 (v := 0) (by decide) ?_
    refine xw_goto C d_Mod_needs_57 (tgt := 75) (by decide) ?_
    exact fin _ _ _ _ h d_Mod_needs_75 rfl
def f_Mod_fail (s0 : tj_S) : Option (tj_S) :=
  nm (up2 s0 0 12 (0 : Int32)) fun s1 =>
  nm (up2 s1 0 14 (-1 : Int32)) fun s2 =>
  some s2
set_option maxRecDepth 100000 in
set_option maxHeartbeats 4000000 in
theorem c_Mod_fail {l : Launch} {D : va_G} {K : Nat → ClassId} {q : Nat → Nat} {s0 sE : tj_S} (h : f_Mod_fail s0 = some sE) : tj_Mv l D tj_cls (M_tys K) tj_N tj_T (M_cw K q) y_Mod_fail b_Mod_fail 1 0 0 [.ref (q 0)] s0 sE := by
  refine tj_start_v (by decide +kernel) (Nat.le_of_ble_eq_true rfl) (fun Γ C fin => ?_)
  show tj_W Γ (M_cw K q) s0 [(0, .ref (q 0))] 0 []
  unfold f_Mod_fail at h
  refine xw_aload_n C d_Mod_fail_0 0 rfl ?_
  refine xw_iconst C d_Mod_fail_1 (v := 0) (by decide) ?_
  refine xw_put C F_Mod_ok 0 rfl rfl 12 (by decide) T_485 rfl rfl rfl (Nat.le_of_ble_eq_true rfl) d_Mod_fail_2 (σ1 := (up2 s0 0 12 (0 : Int32))) rfl ?_
  refine xw_ns h (fun s1 h => ?_)
  refine xw_aload_n C d_Mod_fail_5 0 rfl ?_
  refine xw_iconst C d_Mod_fail_6 (v := -1) (by decide) ?_
  refine xw_put C F_Mod_ok 0 rfl rfl 14 (by decide) T_487 rfl rfl rfl (Nat.le_of_ble_eq_true rfl) d_Mod_fail_7 (σ1 := (up2 s1 0 14 (-1 : Int32))) rfl ?_
  refine xw_ns h (fun s2 h => ?_)
  exact fin _ _ _ h d_Mod_fail_10
def f_Mod_spend (s0 : tj_S) : Option (Int32 × tj_S) :=
  if (s0 0 14) = (0 : Int32) then
    bv (f_Mod_fail s0) fun s7 =>
    some ((0 : Int32), s7)
  else
    if (s0 0 14) ≤ (0 : Int32) then
      nm (up2 s0 0 14 (s0 0 14)) fun s1 =>
      nm (up2 s1 0 15 ((s1 0 15) + (1 : Int32))) fun s2 =>
      some ((1 : Int32), s2)
    else
      nm (up2 s0 0 14 ((s0 0 14) - (1 : Int32))) fun s3 =>
      nm (up2 s3 0 15 ((s3 0 15) + (1 : Int32))) fun s4 =>
      some ((1 : Int32), s4)
set_option maxRecDepth 100000 in
set_option maxHeartbeats 4000000 in
theorem c_Mod_spend {l : Launch} {D : va_G} {K : Nat → ClassId} {q : Nat → Nat} {s0 sE : tj_S} {rE : Int32} (h : f_Mod_spend s0 = some (rE, sE)) : tj_Mi l D tj_cls (M_tys K) tj_N tj_T (M_cw K q) y_Mod_spend b_Mod_spend 1 .boolean 1 20 [.ref (q 0)] s0 rE sE := by
  refine tj_start_i (by decide +kernel) (Nat.le_of_ble_eq_true rfl) (fun Γ C fin => ?_)
  show tj_W Γ (M_cw K q) s0 [(0, .ref (q 0))] 0 []
  unfold f_Mod_spend at h
  refine xw_aload_n C d_Mod_spend_0 0 rfl ?_
  refine xw_get C F_Mod_ok 0 rfl rfl 14 (by decide) T_487 rfl d_Mod_spend_1 ?_
  refine xw_if_ne C d_Mod_spend_4 (tgt := 13) (by decide) (fun hc8 => ?_) (fun hc8 => ?_)
  · replace h := it_f hc8 h
    refine xw_aload_n C d_Mod_spend_13 0 rfl ?_
    refine xw_aload_n C d_Mod_spend_14 0 rfl ?_
    refine xw_get C F_Mod_ok 0 rfl rfl 14 (by decide) T_487 rfl d_Mod_spend_15 ?_
    refine xw_if_le C d_Mod_spend_18 (tgt := 30) (by decide) (fun hc5 => ?_) (fun hc5 => ?_)
    · replace h := it_t hc5 h
      refine xw_aload_n C d_Mod_spend_30 0 rfl ?_
      refine xw_get C F_Mod_ok 0 rfl rfl 14 (by decide) T_487 rfl d_Mod_spend_31 ?_
      refine xw_put C F_Mod_ok 0 rfl rfl 14 (by decide) T_487 rfl rfl rfl (Nat.le_of_ble_eq_true rfl) d_Mod_spend_34 (σ1 := (up2 s0 0 14 (s0 0 14))) rfl ?_
      refine xw_ns h (fun s1 h => ?_)
      refine xw_aload_n C d_Mod_spend_37 0 rfl ?_
      refine xw_dup C d_Mod_spend_38 rfl ?_
      refine xw_get C F_Mod_ok 0 rfl rfl 15 (by decide) T_488 rfl d_Mod_spend_39 ?_
      refine xw_iconst C d_Mod_spend_42 (v := 1) (by decide) ?_
      refine xw_iadd C d_Mod_spend_43 ?_
      refine xw_put C F_Mod_ok 0 rfl rfl 15 (by decide) T_488 rfl rfl rfl (Nat.le_of_ble_eq_true rfl) d_Mod_spend_44 (σ1 := (up2 s1 0 15 ((s1 0 15) + (1 : Int32)))) rfl ?_
      refine xw_ns h (fun s2 h => ?_)
      refine xw_iconst C d_Mod_spend_47 (v := 1) (by decide) ?_
      exact fin _ _ _ _ h d_Mod_spend_48 rfl
    · replace h := it_f hc5 h
      refine xw_aload_n C d_Mod_spend_21 0 rfl ?_
      refine xw_get C F_Mod_ok 0 rfl rfl 14 (by decide) T_487 rfl d_Mod_spend_22 ?_
      refine xw_iconst C d_Mod_spend_25 (v := 1) (by decide) ?_
      refine xw_isub C d_Mod_spend_26 ?_
      refine xw_goto C d_Mod_spend_27 (tgt := 34) (by decide) ?_
      refine xw_put C F_Mod_ok 0 rfl rfl 14 (by decide) T_487 rfl rfl rfl (Nat.le_of_ble_eq_true rfl) d_Mod_spend_34 (σ1 := (up2 s0 0 14 ((s0 0 14) - (1 : Int32)))) rfl ?_
      refine xw_ns h (fun s3 h => ?_)
      refine xw_aload_n C d_Mod_spend_37 0 rfl ?_
      refine xw_dup C d_Mod_spend_38 rfl ?_
      refine xw_get C F_Mod_ok 0 rfl rfl 15 (by decide) T_488 rfl d_Mod_spend_39 ?_
      refine xw_iconst C d_Mod_spend_42 (v := 1) (by decide) ?_
      refine xw_iadd C d_Mod_spend_43 ?_
      refine xw_put C F_Mod_ok 0 rfl rfl 15 (by decide) T_488 rfl rfl rfl (Nat.le_of_ble_eq_true rfl) d_Mod_spend_44 (σ1 := (up2 s3 0 15 ((s3 0 15) + (1 : Int32)))) rfl ?_
      refine xw_ns h (fun s4 h => ?_)
      refine xw_iconst C d_Mod_spend_47 (v := 1) (by decide) ?_
      exact fin _ _ _ _ h d_Mod_spend_48 rfl
  · replace h := it_t hc8 h
    refine xw_aload_n C d_Mod_spend_7 0 rfl ?_
    obtain ⟨s7, hc6, h⟩ := bv_e h
    refine xw_callV_v C tj_Tg tj_Ng (n := 0) (As := []) (rest := []) (c_Mod_fail hc6) T_568 T_565 T_6 T_567 S_26 0 rfl rfl rfl (by decide +kernel) (by decide) rfl rfl (Nat.le_of_ble_eq_true rfl) d_Mod_spend_8 ?_
    refine xw_iconst C d_Mod_spend_11 (v := 0) (by decide) ?_
    exact fin _ _ _ _ h d_Mod_spend_12 rfl
def f_Mod_clean_L4 (y3 : Int32) (k : Int32 → Int32 → tj_S → Option (tj_S)) : Nat → Int32 → Int32 → tj_S → Option (tj_S)
  | 0, _, _, _ => none
  | n + 1, x1, x2, s4 =>
    if (s4 0 5) ≤ x2 then
      k x1 x2 s4
    else
      gd (inb x2 16) <|
      if (s4 5 (Int32.toNatClampNeg x2)) = y3 then
        nm (x2 + Int32.ofInt 1) fun x6 =>
        f_Mod_clean_L4 y3 k n x1 x6 s4
      else
        gd (inb x2 16) <|
        gd (inb x1 16) <|
        nm (up2 s4 5 (Int32.toNatClampNeg x1) (s4 5 (Int32.toNatClampNeg x2))) fun s9 =>
        nm (x1 + Int32.ofInt 1) fun x10 =>
        nm (x2 + Int32.ofInt 1) fun x11 =>
        f_Mod_clean_L4 y3 k n x10 x11 s9
def f_Mod_clean (a1 : Int32) (s0 : tj_S) : Option (tj_S) :=
  f_Mod_clean_L4 a1 (fun x17 x18 s19 =>
    nm (up2 s19 0 5 x17) fun s20 =>
    some s20) 100 (0 : Int32) (0 : Int32) s0
set_option maxRecDepth 100000 in
set_option maxHeartbeats 4000000 in
theorem c_Mod_clean {l : Launch} {D : va_G} {K : Nat → ClassId} {q : Nat → Nat} {a1 : Int32} {s0 sE : tj_S} (h : f_Mod_clean a1 s0 = some sE) : tj_Mv l D tj_cls (M_tys K) tj_N tj_T (M_cw K q) y_Mod_clean b_Mod_clean 4 0 0 [.ref (q 0), .int a1] s0 sE := by
  refine tj_start_v (by decide +kernel) (Nat.le_of_ble_eq_true rfl) (fun Γ C fin => ?_)
  show tj_W Γ (M_cw K q) s0 [(0, .ref (q 0)), (1, .int a1)] 0 []
  have L4 : ∀ (y3 : Int32) (k : Int32 → Int32 → tj_S → Option (tj_S)), (∀ (x14 x15 : Int32) (s16 : tj_S), k x14 x15 s16 = some sE → tj_W Γ (M_cw K q) s16 [(0, .ref (q 0)), (1, .int y3), (2, .int x14), (3, .int x15)] 43 []) → ∀ (n : Nat) (x1 x2 : Int32) (s4 : tj_S), f_Mod_clean_L4 y3 k n x1 x2 s4 = some sE → tj_W Γ (M_cw K q) s4 [(0, .ref (q 0)), (1, .int y3), (2, .int x1), (3, .int x2)] 4 [] := by
    intro y3 k hk n
    induction n with
    | zero => intro x1 x2 s4 h; rw [f_Mod_clean_L4] at h; cases h
    | succ n ih =>
      intro x1 x2 s4 h
      rw [f_Mod_clean_L4] at h
      refine xw_iload_n C d_Mod_clean_4 3 rfl ?_
      refine xw_aload_n C d_Mod_clean_5 0 rfl ?_
      refine xw_get C F_Mod_ok 0 rfl rfl 5 (by decide) T_478 rfl d_Mod_clean_6 ?_
      refine xw_icmp_ge C d_Mod_clean_9 (tgt := 43) (by decide) (fun hc13 => ?_) (fun hc13 => ?_)
      · replace h := it_t hc13 h
        exact xw_lv [0, 1, 2, 3] rfl (hk _ _ _ h)
      · replace h := it_f hc13 h
        refine xw_aload_n C d_Mod_clean_12 0 rfl ?_
        refine xw_get C F_Mod_ok 0 rfl rfl 4 (by decide) T_477 rfl d_Mod_clean_13 ?_
        refine xw_iload_n C d_Mod_clean_16 3 rfl ?_
        obtain ⟨hb5, h⟩ := gd_e h
        refine xw_iald C 5 4 rfl rfl hb5 d_Mod_clean_17 ?_
        refine xw_iload_n C d_Mod_clean_18 1 rfl ?_
        refine xw_icmp_eq C d_Mod_clean_19 (tgt := 37) (by decide) (fun hc12 => ?_) (fun hc12 => ?_)
        · replace h := it_t hc12 h
          refine xw_iinc C h (fun v => [(3, .int v), (0, .ref (q 0)), (1, .int y3), (2, .int x1)]) d_Mod_clean_37 3 rfl (by decide) (fun _ => rfl) (fun x6 h => ?_)
          refine xw_goto C d_Mod_clean_40 (tgt := 4) (by decide) ?_
          exact xw_lv [1, 2, 3, 0] rfl (ih _ _ _ h)
        · replace h := it_f hc12 h
          refine xw_aload_n C d_Mod_clean_22 0 rfl ?_
          refine xw_get C F_Mod_ok 0 rfl rfl 4 (by decide) T_477 rfl d_Mod_clean_23 ?_
          refine xw_iload_n C d_Mod_clean_26 2 rfl ?_
          refine xw_aload_n C d_Mod_clean_27 0 rfl ?_
          refine xw_get C F_Mod_ok 0 rfl rfl 4 (by decide) T_477 rfl d_Mod_clean_28 ?_
          refine xw_iload_n C d_Mod_clean_31 3 rfl ?_
          obtain ⟨hb7, h⟩ := gd_e h
          refine xw_iald C 5 4 rfl rfl hb7 d_Mod_clean_32 ?_
          obtain ⟨hb8, h⟩ := gd_e h
          refine xw_iast C 5 4 rfl rfl hb8 d_Mod_clean_33 (σ1 := (up2 s4 5 (Int32.toNatClampNeg x1) (s4 5 (Int32.toNatClampNeg x2)))) rfl ?_
          refine xw_ns h (fun s9 h => ?_)
          refine xw_iinc C h (fun v => [(2, .int v), (0, .ref (q 0)), (1, .int y3), (3, .int x2)]) d_Mod_clean_34 2 rfl (by decide) (fun _ => rfl) (fun x10 h => ?_)
          refine xw_iinc C h (fun v => [(3, .int v), (2, .int x10), (0, .ref (q 0)), (1, .int y3)]) d_Mod_clean_37 3 rfl (by decide) (fun _ => rfl) (fun x11 h => ?_)
          refine xw_goto C d_Mod_clean_40 (tgt := 4) (by decide) ?_
          exact xw_lv [2, 3, 1, 0] rfl (ih _ _ _ h)
  unfold f_Mod_clean at h
  refine xw_iconst C d_Mod_clean_0 (v := 0) (by decide) ?_
  refine xw_istore_n C d_Mod_clean_1 rfl (by decide) (lv1 := [(2, .int (0 : Int32)), (0, .ref (q 0)), (1, .int a1)]) rfl ?_
  refine xw_iconst C d_Mod_clean_2 (v := 0) (by decide) ?_
  refine xw_istore_n C d_Mod_clean_3 rfl (by decide) (lv1 := [(3, .int (0 : Int32)), (2, .int (0 : Int32)), (0, .ref (q 0)), (1, .int a1)]) rfl ?_
  refine xw_lv [2, 3, 1, 0] rfl (L4 _ _ (fun x17 x18 s19 h => ?_) 100 _ _ _ h)
  refine xw_aload_n C d_Mod_clean_43 0 rfl ?_
  refine xw_iload_n C d_Mod_clean_44 2 rfl ?_
  refine xw_put C F_Mod_ok 0 rfl rfl 5 (by decide) T_478 rfl rfl rfl (Nat.le_of_ble_eq_true rfl) d_Mod_clean_45 (σ1 := (up2 s19 0 5 x17)) rfl ?_
  refine xw_ns h (fun s20 h => ?_)
  exact fin _ _ _ h d_Mod_clean_48
def f_Mod_bring_L18 (y7 y8 : Int32) (k : Int32 → tj_S → Option (Int32 × tj_S)) : Nat → Int32 → tj_S → Option (Int32 × tj_S)
  | 0, _, _ => none
  | n + 1, x6, s9 =>
    if (4 : Int32) ≤ x6 then
      k x6 s9
    else
      gd (inb (((4 : Int32) * y8) + x6) 92) <|
      gd (inb (((4 : Int32) * y8) + x6) 92) <|
      nm (up2 s9 1 (Int32.toNatClampNeg (((4 : Int32) * y8) + x6)) (s9 2 (Int32.toNatClampNeg (((4 : Int32) * y8) + x6)))) fun s12 =>
      nm (x6 + Int32.ofInt 1) fun x13 =>
      f_Mod_bring_L18 y7 y8 k n x13 s12
def f_Mod_bring (a1 : Int32) (s0 : tj_S) : Option (Int32 × tj_S) :=
  bd (f_Mod_spend s0) fun r3 s2 =>
  if r3 = (0 : Int32) then
    some ((0 : Int32), s2)
  else
    gd (inb a1 16) <|
    nm ((s2 5 (Int32.toNatClampNeg a1))) fun x5 =>
    f_Mod_bring_L18 a1 x5 (fun x17 s18 =>
      bv (f_Mod_clean x5 s18) fun s20 =>
      some ((1 : Int32), s20)) 100 (0 : Int32) s2
set_option maxRecDepth 100000 in
set_option maxHeartbeats 4000000 in
theorem c_Mod_bring {l : Launch} {D : va_G} {K : Nat → ClassId} {q : Nat → Nat} {a1 : Int32} {s0 sE : tj_S} {rE : Int32} (h : f_Mod_bring a1 s0 = some (rE, sE)) : tj_Mi l D tj_cls (M_tys K) tj_N tj_T (M_cw K q) y_Mod_bring b_Mod_bring 4 .boolean 2 40 [.ref (q 0), .int a1] s0 rE sE := by
  refine tj_start_i (by decide +kernel) (Nat.le_of_ble_eq_true rfl) (fun Γ C fin => ?_)
  show tj_W Γ (M_cw K q) s0 [(0, .ref (q 0)), (1, .int a1)] 0 []
  have L18 : ∀ (y7 y8 : Int32) (k : Int32 → tj_S → Option (Int32 × tj_S)), (∀ (x15 : Int32) (s16 : tj_S), k x15 s16 = some (rE, sE) → tj_W Γ (M_cw K q) s16 [(0, .ref (q 0)), (1, .int y7), (2, .int y8), (3, .int x15)] 49 []) → ∀ (n : Nat) (x6 : Int32) (s9 : tj_S), f_Mod_bring_L18 y7 y8 k n x6 s9 = some (rE, sE) → tj_W Γ (M_cw K q) s9 [(0, .ref (q 0)), (1, .int y7), (2, .int y8), (3, .int x6)] 18 [] := by
    intro y7 y8 k hk n
    induction n with
    | zero => intro x6 s9 h; rw [f_Mod_bring_L18] at h; cases h
    | succ n ih =>
      intro x6 s9 h
      rw [f_Mod_bring_L18] at h
      refine xw_iload_n C d_Mod_bring_18 3 rfl ?_
      refine xw_iconst C d_Mod_bring_19 (v := 4) (by decide) ?_
      refine xw_icmp_ge C d_Mod_bring_20 (tgt := 49) (by decide) (fun hc14 => ?_) (fun hc14 => ?_)
      · replace h := it_t hc14 h
        exact xw_lv [0, 1, 2, 3] rfl (hk _ _ h)
      · replace h := it_f hc14 h
        refine xw_aload_n C d_Mod_bring_23 0 rfl ?_
        refine xw_get C F_Mod_ok 0 rfl rfl 0 (by decide) T_473 rfl d_Mod_bring_24 ?_
        refine xw_iconst C d_Mod_bring_27 (v := 4) (by decide) ?_
        refine xw_iload_n C d_Mod_bring_28 2 rfl ?_
        refine xw_imul C d_Mod_bring_29 ?_
        refine xw_iload_n C d_Mod_bring_30 3 rfl ?_
        refine xw_iadd C d_Mod_bring_31 ?_
        refine xw_aload_n C d_Mod_bring_32 0 rfl ?_
        refine xw_get C F_Mod_ok 0 rfl rfl 1 (by decide) T_474 rfl d_Mod_bring_33 ?_
        refine xw_iconst C d_Mod_bring_36 (v := 4) (by decide) ?_
        refine xw_iload_n C d_Mod_bring_37 2 rfl ?_
        refine xw_imul C d_Mod_bring_38 ?_
        refine xw_iload_n C d_Mod_bring_39 3 rfl ?_
        refine xw_iadd C d_Mod_bring_40 ?_
        obtain ⟨hb10, h⟩ := gd_e h
        refine xw_iald C 2 1 rfl rfl hb10 d_Mod_bring_41 ?_
        obtain ⟨hb11, h⟩ := gd_e h
        refine xw_iast C 1 0 rfl rfl hb11 d_Mod_bring_42 (σ1 := (up2 s9 1 (Int32.toNatClampNeg (((4 : Int32) * y8) + x6)) (s9 2 (Int32.toNatClampNeg (((4 : Int32) * y8) + x6))))) rfl ?_
        refine xw_ns h (fun s12 h => ?_)
        refine xw_iinc C h (fun v => [(3, .int v), (0, .ref (q 0)), (1, .int y7), (2, .int y8)]) d_Mod_bring_43 3 rfl (by decide) (fun _ => rfl) (fun x13 h => ?_)
        refine xw_goto C d_Mod_bring_46 (tgt := 18) (by decide) ?_
        exact xw_lv [1, 2, 3, 0] rfl (ih _ _ h)
  unfold f_Mod_bring at h
  refine xw_aload_n C d_Mod_bring_0 0 rfl ?_
  obtain ⟨r3, s2, hc1, h⟩ := bd_e h
  refine xw_callV_i C tj_Tg tj_Ng (n := 0) (As := []) (rest := []) (c_Mod_spend hc1) T_564 T_561 T_6 T_563 S_25 0 rfl rfl rfl (by decide +kernel) (by decide) rfl rfl (Nat.le_of_ble_eq_true rfl) d_Mod_bring_1 ?_
  refine xw_if_ne C d_Mod_bring_4 (tgt := 9) (by decide) (fun hc21 => ?_) (fun hc21 => ?_)
  · replace h := it_f hc21 h
    refine xw_aload_n C d_Mod_bring_9 0 rfl ?_
    refine xw_get C F_Mod_ok 0 rfl rfl 4 (by decide) T_477 rfl d_Mod_bring_10 ?_
    refine xw_iload_n C d_Mod_bring_13 1 rfl ?_
    obtain ⟨hb4, h⟩ := gd_e h
    refine xw_iald C 5 4 rfl rfl hb4 d_Mod_bring_14 ?_
    refine xw_ni h (fun x5 h => ?_)
    refine xw_istore_n C d_Mod_bring_15 rfl (by decide) (lv1 := [(2, .int x5), (0, .ref (q 0)), (1, .int a1)]) rfl ?_
    refine xw_iconst C d_Mod_bring_16 (v := 0) (by decide) ?_
    refine xw_istore_n C d_Mod_bring_17 rfl (by decide) (lv1 := [(3, .int (0 : Int32)), (2, .int x5), (0, .ref (q 0)), (1, .int a1)]) rfl ?_
    refine xw_lv [2, 3, 1, 0] rfl (L18 _ _ _ (fun x17 s18 h => ?_) 100 _ _ h)
    refine xw_aload_n C d_Mod_bring_49 0 rfl ?_
    refine xw_iload_n C d_Mod_bring_50 2 rfl ?_
    obtain ⟨s20, hc19, h⟩ := bv_e h
    refine xw_callV_v C tj_Tg tj_Ng (n := 1) (As := [.int x5]) (rest := []) (c_Mod_clean hc19) T_572 T_569 T_6 T_571 S_27 0 rfl rfl rfl (by decide +kernel) (by decide) rfl rfl (Nat.le_of_ble_eq_true rfl) d_Mod_bring_51 ?_
    refine xw_iconst C d_Mod_bring_54 (v := 1) (by decide) ?_
    exact fin _ _ _ _ h d_Mod_bring_55 rfl
  · replace h := it_t hc21 h
    refine xw_iconst C d_Mod_bring_7 (v := 0) (by decide) ?_
    exact fin _ _ _ _ h d_Mod_bring_8 rfl
def f_Mod_vacant_L5 (k : Int32 → Int32 → tj_S → Option (Int32 × tj_S)) : Nat → Int32 → Int32 → tj_S → Option (Int32 × tj_S)
  | 0, _, _, _ => none
  | n + 1, x1, x2, s3 =>
    if (s3 0 10) ≤ x2 then
      k x1 x2 s3
    else
      gd (inb x2 8) <|
      nm ((x1 - (s3 9 (Int32.toNatClampNeg x2)))) fun x5 =>
      nm (x2 + Int32.ofInt 1) fun x6 =>
      f_Mod_vacant_L5 k n x5 x6 s3
def f_Mod_vacant (s0 : tj_S) : Option (Int32 × tj_S) :=
  f_Mod_vacant_L5 (fun x11 x12 s13 =>
    some (x11, s13)) 100 (24 : Int32) (0 : Int32) s0
set_option maxRecDepth 100000 in
set_option maxHeartbeats 4000000 in
theorem c_Mod_vacant {l : Launch} {D : va_G} {K : Nat → ClassId} {q : Nat → Nat} {s0 sE : tj_S} {rE : Int32} (h : f_Mod_vacant s0 = some (rE, sE)) : tj_Mi l D tj_cls (M_tys K) tj_N tj_T (M_cw K q) y_Mod_vacant b_Mod_vacant 3 .int 0 0 [.ref (q 0)] s0 rE sE := by
  refine tj_start_i (by decide +kernel) (Nat.le_of_ble_eq_true rfl) (fun Γ C fin => ?_)
  show tj_W Γ (M_cw K q) s0 [(0, .ref (q 0))] 0 []
  have L5 : ∀ (k : Int32 → Int32 → tj_S → Option (Int32 × tj_S)), (∀ (x8 x9 : Int32) (s10 : tj_S), k x8 x9 s10 = some (rE, sE) → tj_W Γ (M_cw K q) s10 [(0, .ref (q 0)), (1, .int x8), (2, .int x9)] 28 []) → ∀ (n : Nat) (x1 x2 : Int32) (s3 : tj_S), f_Mod_vacant_L5 k n x1 x2 s3 = some (rE, sE) → tj_W Γ (M_cw K q) s3 [(0, .ref (q 0)), (1, .int x1), (2, .int x2)] 5 [] := by
    intro k hk n
    induction n with
    | zero => intro x1 x2 s3 h; rw [f_Mod_vacant_L5] at h; cases h
    | succ n ih =>
      intro x1 x2 s3 h
      rw [f_Mod_vacant_L5] at h
      refine xw_iload_n C d_Mod_vacant_5 2 rfl ?_
      refine xw_aload_n C d_Mod_vacant_6 0 rfl ?_
      refine xw_get C F_Mod_ok 0 rfl rfl 10 (by decide) T_483 rfl d_Mod_vacant_7 ?_
      refine xw_icmp_ge C d_Mod_vacant_10 (tgt := 28) (by decide) (fun hc7 => ?_) (fun hc7 => ?_)
      · replace h := it_t hc7 h
        exact xw_lv [0, 1, 2] rfl (hk _ _ _ h)
      · replace h := it_f hc7 h
        refine xw_iload_n C d_Mod_vacant_13 1 rfl ?_
        refine xw_aload_n C d_Mod_vacant_14 0 rfl ?_
        refine xw_get C F_Mod_ok 0 rfl rfl 9 (by decide) T_482 rfl d_Mod_vacant_15 ?_
        refine xw_iload_n C d_Mod_vacant_18 2 rfl ?_
        obtain ⟨hb4, h⟩ := gd_e h
        refine xw_iald C 9 8 rfl rfl hb4 d_Mod_vacant_19 ?_
        refine xw_isub C d_Mod_vacant_20 ?_
        refine xw_ni h (fun x5 h => ?_)
        refine xw_istore_n C d_Mod_vacant_21 rfl (by decide) (lv1 := [(1, .int x5), (0, .ref (q 0)), (2, .int x2)]) rfl ?_
        refine xw_iinc C h (fun v => [(2, .int v), (1, .int x5), (0, .ref (q 0))]) d_Mod_vacant_22 2 rfl (by decide) (fun _ => rfl) (fun x6 h => ?_)
        refine xw_goto C d_Mod_vacant_25 (tgt := 5) (by decide) ?_
        exact xw_lv [2, 1, 0] rfl (ih _ _ _ h)
  unfold f_Mod_vacant at h
  refine xw_bipush C d_Mod_vacant_0 (v := 24) (by decide) ?_
  refine xw_istore_n C d_Mod_vacant_2 rfl (by decide) (lv1 := [(1, .int (24 : Int32)), (0, .ref (q 0))]) rfl ?_
  refine xw_iconst C d_Mod_vacant_3 (v := 0) (by decide) ?_
  refine xw_istore_n C d_Mod_vacant_4 rfl (by decide) (lv1 := [(2, .int (0 : Int32)), (1, .int (24 : Int32)), (0, .ref (q 0))]) rfl ?_
  refine xw_lv [2, 1, 0] rfl (L5 _ (fun x11 x12 s13 h => ?_) 100 _ _ _ h)
  refine xw_iload_n C d_Mod_vacant_28 1 rfl ?_
  exact fin _ _ _ _ h d_Mod_vacant_29 rfl
