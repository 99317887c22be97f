def f_Mod_enter_L2 (y2 : Int32) (k : Int32 → tj_S → Option (tj_S)) : Nat → Int32 → tj_S → Option (tj_S)
  | 0, _, _ => none
  | n + 1, x1, s3 =>
    if (23 : Int32) ≤ x1 then
      k x1 s3
    else
      gd (inb x1 23) <|
      gd (inb (((23 : Int32) * (s3 0 10)) + x1) 184) <|
      nm (up2 s3 6 (Int32.toNatClampNeg (((23 : Int32) * (s3 0 10)) + x1)) (vp_nar .boolean (s3 3 (Int32.toNatClampNeg x1)))) fun s6 =>
      gd (inb x1 23) <|
      gd (inb (((23 : Int32) * (s6 0 10)) + x1) 184) <|
      nm (up2 s6 7 (Int32.toNatClampNeg (((23 : Int32) * (s6 0 10)) + x1)) (vp_nar .boolean (s6 4 (Int32.toNatClampNeg x1)))) fun s9 =>
      gd (inb x1 23) <|
      nm (up2 s9 3 (Int32.toNatClampNeg x1) (vp_nar .boolean (0 : Int32))) fun s11 =>
      gd (inb x1 23) <|
      nm (up2 s11 4 (Int32.toNatClampNeg x1) (vp_nar .boolean (0 : Int32))) fun s13 =>
      nm (x1 + Int32.ofInt 1) fun x14 =>
      f_Mod_enter_L2 y2 k n x14 s13
def f_Mod_enter_L70 (y21 : Int32) (k : Int32 → tj_S → Option (tj_S)) : Nat → Int32 → tj_S → Option (tj_S)
  | 0, _, _ => none
  | n + 1, x20, s22 =>
    if (92 : Int32) ≤ x20 then
      k x20 s22
    else
      gd (inb x20 92) <|
      gd (inb (((92 : Int32) * (s22 0 10)) + x20) 736) <|
      nm (up2 s22 8 (Int32.toNatClampNeg (((92 : Int32) * (s22 0 10)) + x20)) (s22 2 (Int32.toNatClampNeg x20))) fun s25 =>
      nm (x20 + Int32.ofInt 1) fun x26 =>
      f_Mod_enter_L70 y21 k n x26 s25
def f_Mod_enter (a1 : Int32) (s0 : tj_S) : Option (tj_S) :=
  f_Mod_enter_L2 a1 (fun x18 s19 =>
    f_Mod_enter_L70 a1 (fun x30 s31 =>
      gd (inb (s31 0 10) 8) <|
      nm (up2 s31 9 (Int32.toNatClampNeg (s31 0 10)) a1) fun s33 =>
      nm (up2 s33 0 10 ((s33 0 10) + (1 : Int32))) fun s34 =>
      nm (up2 s34 0 11 (((s34 0 11) + a1) - ((s34 0 11) + a1) / (24 : Int32) * (24 : Int32))) fun s35 =>
      gd (inb (24 : Int32) 92) <|
      nm (up2 s35 0 16 (s35 2 (Int32.toNatClampNeg (24 : Int32)))) fun s37 =>
      some s37) 100 (0 : Int32) s19) 100 (0 : Int32) s0
set_option maxRecDepth 100000 in
set_option maxHeartbeats 4000000 in
theorem c_Mod_enter {l : Launch} {D : va_G} {K : Nat → ClassId} {q : Nat → Nat} {a1 : Int32} {s0 sE : tj_S} (h : f_Mod_enter a1 s0 = some sE) : tj_Mv l D tj_cls (M_tys K) tj_N tj_T (M_cw K q) y_Mod_enter b_Mod_enter 3 0 0 [.ref (q 0), .int a1] s0 sE := by
  refine tj_start_v (by decide +kernel) (Nat.le_of_ble_eq_true rfl) (fun Γ C fin => ?_)
  show tj_W Γ (M_cw K q) s0 [(0, .ref (q 0)), (1, .int a1)] 0 []
  have L2 : ∀ (y2 : Int32) (k : Int32 → tj_S → Option (tj_S)), (∀ (x16 : Int32) (s17 : tj_S), k x16 s17 = some sE → tj_W Γ (M_cw K q) s17 [(0, .ref (q 0)), (1, .int y2), (2, .int x16)] 68 []) → ∀ (n : Nat) (x1 : Int32) (s3 : tj_S), f_Mod_enter_L2 y2 k n x1 s3 = some sE → tj_W Γ (M_cw K q) s3 [(0, .ref (q 0)), (1, .int y2), (2, .int x1)] 2 [] := by
    intro y2 k hk n
    induction n with
    | zero => intro x1 s3 h; rw [f_Mod_enter_L2] at h; cases h
    | succ n ih =>
      intro x1 s3 h
      rw [f_Mod_enter_L2] at h
      refine xw_iload_n C d_Mod_enter_2 2 rfl ?_
      refine xw_bipush C d_Mod_enter_3 (v := 23) (by decide) ?_
      refine xw_icmp_ge C d_Mod_enter_5 (tgt := 68) (by decide) (fun hc15 => ?_) (fun hc15 => ?_)
      · replace h := it_t hc15 h
        exact xw_lv [0, 1, 2] rfl (hk _ _ h)
      · replace h := it_f hc15 h
        refine xw_aload_n C d_Mod_enter_8 0 rfl ?_
        refine xw_get C F_Mod_ok 0 rfl rfl 6 (by decide) T_479 rfl d_Mod_enter_9 ?_
        refine xw_bipush C d_Mod_enter_12 (v := 23) (by decide) ?_
        refine xw_aload_n C d_Mod_enter_14 0 rfl ?_
        refine xw_get C F_Mod_ok 0 rfl rfl 10 (by decide) T_483 rfl d_Mod_enter_15 ?_
        refine xw_imul C d_Mod_enter_18 ?_
        refine xw_iload_n C d_Mod_enter_19 2 rfl ?_
        refine xw_iadd C d_Mod_enter_20 ?_
        refine xw_aload_n C d_Mod_enter_21 0 rfl ?_
        refine xw_get C F_Mod_ok 0 rfl rfl 2 (by decide) T_475 rfl d_Mod_enter_22 ?_
        refine xw_iload_n C d_Mod_enter_25 2 rfl ?_
        obtain ⟨hb4, h⟩ := gd_e h
        refine xw_zald C 3 2 rfl rfl hb4 d_Mod_enter_26 ?_
        obtain ⟨hb5, h⟩ := gd_e h
        refine xw_zast C 6 5 rfl rfl hb5 d_Mod_enter_27 (σ1 := (up2 s3 6 (Int32.toNatClampNeg (((23 : Int32) * (s3 0 10)) + x1)) (vp_nar .boolean (s3 3 (Int32.toNatClampNeg x1))))) rfl ?_
        refine xw_ns h (fun s6 h => ?_)
        refine xw_aload_n C d_Mod_enter_28 0 rfl ?_
        refine xw_get C F_Mod_ok 0 rfl rfl 7 (by decide) T_480 rfl d_Mod_enter_29 ?_
        refine xw_bipush C d_Mod_enter_32 (v := 23) (by decide) ?_
        refine xw_aload_n C d_Mod_enter_34 0 rfl ?_
        refine xw_get C F_Mod_ok 0 rfl rfl 10 (by decide) T_483 rfl d_Mod_enter_35 ?_
        refine xw_imul C d_Mod_enter_38 ?_
        refine xw_iload_n C d_Mod_enter_39 2 rfl ?_
        refine xw_iadd C d_Mod_enter_40 ?_
        refine xw_aload_n C d_Mod_enter_41 0 rfl ?_
        refine xw_get C F_Mod_ok 0 rfl rfl 3 (by decide) T_476 rfl d_Mod_enter_42 ?_
        refine xw_iload_n C d_Mod_enter_45 2 rfl ?_
        obtain ⟨hb7, h⟩ := gd_e h
        refine xw_zald C 4 3 rfl rfl hb7 d_Mod_enter_46 ?_
        obtain ⟨hb8, h⟩ := gd_e h
        refine xw_zast C 7 6 rfl rfl hb8 d_Mod_enter_47 (σ1 := (up2 s6 7 (Int32.toNatClampNeg (((23 : Int32) * (s6 0 10)) + x1)) (vp_nar .boolean (s6 4 (Int32.toNatClampNeg x1))))) rfl ?_
        refine xw_ns h (fun s9 h => ?_)
        refine xw_aload_n C d_Mod_enter_48 0 rfl ?_
        refine xw_get C F_Mod_ok 0 rfl rfl 2 (by decide) T_475 rfl d_Mod_enter_49 ?_
        refine xw_iload_n C d_Mod_enter_52 2 rfl ?_
        refine xw_iconst C d_Mod_enter_53 (v := 0) (by decide) ?_
        obtain ⟨hb10, h⟩ := gd_e h
        refine xw_zast C 3 2 rfl rfl hb10 d_Mod_enter_54 (σ1 := (up2 s9 3 (Int32.toNatClampNeg x1) (vp_nar .boolean (0 : Int32)))) rfl ?_
        refine xw_ns h (fun s11 h => ?_)
        refine xw_aload_n C d_Mod_enter_55 0 rfl ?_
        refine xw_get C F_Mod_ok 0 rfl rfl 3 (by decide) T_476 rfl d_Mod_enter_56 ?_
        refine xw_iload_n C d_Mod_enter_59 2 rfl ?_
        refine xw_iconst C d_Mod_enter_60 (v := 0) (by decide) ?_
        obtain ⟨hb12, h⟩ := gd_e h
        refine xw_zast C 4 3 rfl rfl hb12 d_Mod_enter_61 (σ1 := (up2 s11 4 (Int32.toNatClampNeg x1) (vp_nar .boolean (0 : Int32)))) rfl ?_
        refine xw_ns h (fun s13 h => ?_)
        refine xw_iinc C h (fun v => [(2, .int v), (0, .ref (q 0)), (1, .int y2)]) d_Mod_enter_62 2 rfl (by decide) (fun _ => rfl) (fun x14 h => ?_)
        refine xw_goto C d_Mod_enter_65 (tgt := 2) (by decide) ?_
        exact xw_lv [1, 2, 0] rfl (ih _ _ h)
  have L70 : ∀ (y21 : Int32) (k : Int32 → tj_S → Option (tj_S)), (∀ (x28 : Int32) (s29 : tj_S), k x28 s29 = some sE → tj_W Γ (M_cw K q) s29 [(0, .ref (q 0)), (1, .int y21), (2, .int x28)] 102 []) → ∀ (n : Nat) (x20 : Int32) (s22 : tj_S), f_Mod_enter_L70 y21 k n x20 s22 = some sE → tj_W Γ (M_cw K q) s22 [(0, .ref (q 0)), (1, .int y21), (2, .int x20)] 70 [] := by
    intro y21 k hk n
    induction n with
    | zero => intro x20 s22 h; rw [f_Mod_enter_L70] at h; cases h
    | succ n ih =>
      intro x20 s22 h
      rw [f_Mod_enter_L70] at h
      refine xw_iload_n C d_Mod_enter_70 2 rfl ?_
      refine xw_bipush C d_Mod_enter_71 (v := 92) (by decide) ?_
      refine xw_icmp_ge C d_Mod_enter_73 (tgt := 102) (by decide) (fun hc27 => ?_) (fun hc27 => ?_)
      · replace h := it_t hc27 h
        exact xw_lv [0, 1, 2] rfl (hk _ _ h)
      · replace h := it_f hc27 h
        refine xw_aload_n C d_Mod_enter_76 0 rfl ?_
        refine xw_get C F_Mod_ok 0 rfl rfl 8 (by decide) T_481 rfl d_Mod_enter_77 ?_
        refine xw_bipush C d_Mod_enter_80 (v := 92) (by decide) ?_
        refine xw_aload_n C d_Mod_enter_82 0 rfl ?_
        refine xw_get C F_Mod_ok 0 rfl rfl 10 (by decide) T_483 rfl d_Mod_enter_83 ?_
        refine xw_imul C d_Mod_enter_86 ?_
        refine xw_iload_n C d_Mod_enter_87 2 rfl ?_
        refine xw_iadd C d_Mod_enter_88 ?_
        refine xw_aload_n C d_Mod_enter_89 0 rfl ?_
        refine xw_get C F_Mod_ok 0 rfl rfl 1 (by decide) T_474 rfl d_Mod_enter_90 ?_
        refine xw_iload_n C d_Mod_enter_93 2 rfl ?_
        obtain ⟨hb23, h⟩ := gd_e h
        refine xw_iald C 2 1 rfl rfl hb23 d_Mod_enter_94 ?_
        obtain ⟨hb24, h⟩ := gd_e h
        refine xw_iast C 8 7 rfl rfl hb24 d_Mod_enter_95 (σ1 := (up2 s22 8 (Int32.toNatClampNeg (((92 : Int32) * (s22 0 10)) + x20)) (s22 2 (Int32.toNatClampNeg x20)))) rfl ?_
        refine xw_ns h (fun s25 h => ?_)
        refine xw_iinc C h (fun v => [(2, .int v), (0, .ref (q 0)), (1, .int y21)]) d_Mod_enter_96 2 rfl (by decide) (fun _ => rfl) (fun x26 h => ?_)
        refine xw_goto C d_Mod_enter_99 (tgt := 70) (by decide) ?_
        exact xw_lv [1, 2, 0] rfl (ih _ _ h)
  unfold f_Mod_enter at h
  refine xw_iconst C d_Mod_enter_0 (v := 0) (by decide) ?_
  refine xw_istore_n C d_Mod_enter_1 rfl (by decide) (lv1 := [(2, .int (0 : Int32)), (0, .ref (q 0)), (1, .int a1)]) rfl ?_
  refine xw_lv [1, 2, 0] rfl (L2 _ _ (fun x18 s19 h => ?_) 100 _ _ h)
  refine xw_iconst C d_Mod_enter_68 (v := 0) (by decide) ?_
  refine xw_istore_n C d_Mod_enter_69 rfl (by decide) (lv1 := [(2, .int (0 : Int32)), (0, .ref (q 0)), (1, .int a1)]) rfl ?_
  refine xw_lv [1, 2, 0] rfl (L70 _ _ (fun x30 s31 h => ?_) 100 _ _ h)
  refine xw_aload_n C d_Mod_enter_102 0 rfl ?_
  refine xw_get C F_Mod_ok 0 rfl rfl 9 (by decide) T_482 rfl d_Mod_enter_103 ?_
  refine xw_aload_n C d_Mod_enter_106 0 rfl ?_
  refine xw_get C F_Mod_ok 0 rfl rfl 10 (by decide) T_483 rfl d_Mod_enter_107 ?_
  refine xw_iload_n C d_Mod_enter_110 1 rfl ?_
  obtain ⟨hb32, h⟩ := gd_e h
  refine xw_iast C 9 8 rfl rfl hb32 d_Mod_enter_111 (σ1 := (up2 s31 9 (Int32.toNatClampNeg (s31 0 10)) a1)) rfl ?_
  refine xw_ns h (fun s33 h => ?_)
  refine xw_aload_n C d_Mod_enter_112 0 rfl ?_
  refine xw_dup C d_Mod_enter_113 rfl ?_
  refine xw_get C F_Mod_ok 0 rfl rfl 10 (by decide) T_483 rfl d_Mod_enter_114 ?_
  refine xw_iconst C d_Mod_enter_117 (v := 1) (by decide) ?_
  refine xw_iadd C d_Mod_enter_118 ?_
  refine xw_put C F_Mod_ok 0 rfl rfl 10 (by decide) T_483 rfl rfl rfl (Nat.le_of_ble_eq_true rfl) d_Mod_enter_119 (σ1 := (up2 s33 0 10 ((s33 0 10) + (1 : Int32)))) rfl ?_
  refine xw_ns h (fun s34 h => ?_)
  refine xw_aload_n C d_Mod_enter_122 0 rfl ?_
  refine xw_aload_n C d_Mod_enter_123 0 rfl ?_
  refine xw_get C F_Mod_ok 0 rfl rfl 11 (by decide) T_484 rfl d_Mod_enter_124 ?_
  refine xw_iload_n C d_Mod_enter_127 1 rfl ?_
  refine xw_iadd C d_Mod_enter_128 ?_
  refine xw_bipush C d_Mod_enter_129 (v := 24) (by decide) ?_
  refine xw_irem C d_Mod_enter_131 (by decide) ?_
  refine xw_put C F_Mod_ok 0 rfl rfl 11 (by decide) T_484 rfl rfl rfl (Nat.le_of_ble_eq_true rfl) d_Mod_enter_132 (σ1 := (up2 s34 0 11 (((s34 0 11) + a1) - ((s34 0 11) + a1) / (24 : Int32) * (24 : Int32)))) rfl ?_
  refine xw_ns h (fun s35 h => ?_)
  refine xw_aload_n C d_Mod_enter_135 0 rfl ?_
  refine xw_aload_n C d_Mod_enter_136 0 rfl ?_
  refine xw_get C F_Mod_ok 0 rfl rfl 1 (by decide) T_474 rfl d_Mod_enter_137 ?_
  refine xw_bipush C d_Mod_enter_140 (v := 24) (by decide) ?_
  obtain ⟨hb36, h⟩ := gd_e h
  refine xw_iald C 2 1 rfl rfl hb36 d_Mod_enter_142 ?_
  refine xw_put C F_Mod_ok 0 rfl rfl 16 (by decide) T_489 rfl rfl rfl (Nat.le_of_ble_eq_true rfl) d_Mod_enter_143 (σ1 := (up2 s35 0 16 (s35 2 (Int32.toNatClampNeg (24 : Int32))))) rfl ?_
  refine xw_ns h (fun s37 h => ?_)
  exact fin _ _ _ h d_Mod_enter_146
def f_Mod_later_L5 (y3 y4 y5 : Int32) (k : Int32 → tj_S → Option (Int32 × tj_S)) : Nat → Int32 → tj_S → Option (Int32 × tj_S)
  | 0, _, _ => none
  | n + 1, x2, s6 =>
    if (s6 0 10) ≤ x2 then
      k x2 s6
    else
      gd (inb (((23 : Int32) * x2) + y4) 184) <|
      if (s6 7 (Int32.toNatClampNeg (((23 : Int32) * x2) + y4))) = (0 : Int32) then
        if y5 = (0 : Int32) then
          nm (x2 + Int32.ofInt 1) fun x8 =>
          f_Mod_later_L5 y3 y4 y5 k n x8 s6
        else
          gd (inb (((23 : Int32) * x2) + y4) 184) <|
          if (s6 6 (Int32.toNatClampNeg (((23 : Int32) * x2) + y4))) = (0 : Int32) then
            nm (x2 + Int32.ofInt 1) fun x10 =>
            f_Mod_later_L5 y3 y4 y5 k n x10 s6
          else
            some ((1 : Int32), s6)
      else
        some ((1 : Int32), s6)
def f_Mod_later (a1 a2 a3 : Int32) (s0 : tj_S) : Option (Int32 × tj_S) :=
  nm ((a1 + (1 : Int32))) fun x1 =>
  f_Mod_later_L5 a1 a2 a3 (fun x17 s18 =>
    some ((0 : Int32), s18)) 100 x1 s0
set_option maxRecDepth 100000 in
set_option maxHeartbeats 4000000 in
theorem c_Mod_later {l : Launch} {D : va_G} {K : Nat → ClassId} {q : Nat → Nat} {a1 a2 a3 : Int32} {s0 sE : tj_S} {rE : Int32} (h : f_Mod_later a1 a2 a3 s0 = some (rE, sE)) : tj_Mi l D tj_cls (M_tys K) tj_N tj_T (M_cw K q) y_Mod_later b_Mod_later 5 .boolean 0 0 [.ref (q 0), .int a1, .int a2, .int a3] s0 rE sE := by
  refine tj_start_i (by decide +kernel) (Nat.le_of_ble_eq_true rfl) (fun Γ C fin => ?_)
  show tj_W Γ (M_cw K q) s0 [(0, .ref (q 0)), (1, .int a1), (2, .int a2), (3, .int a3)] 0 []
  have L5 : ∀ (y3 y4 y5 : Int32) (k : Int32 → tj_S → Option (Int32 × tj_S)), (∀ (x15 : Int32) (s16 : tj_S), k x15 s16 = some (rE, sE) → tj_W Γ (M_cw K q) s16 [(0, .ref (q 0)), (1, .int y3), (2, .int y4), (3, .int y5), (4, .int x15)] 56 []) → ∀ (n : Nat) (x2 : Int32) (s6 : tj_S), f_Mod_later_L5 y3 y4 y5 k n x2 s6 = some (rE, sE) → tj_W Γ (M_cw K q) s6 [(0, .ref (q 0)), (1, .int y3), (2, .int y4), (3, .int y5), (4, .int x2)] 5 [] := by
    intro y3 y4 y5 k hk n
    induction n with
    | zero => intro x2 s6 h; rw [f_Mod_later_L5] at h; cases h
    | succ n ih =>
      intro x2 s6 h
      rw [f_Mod_later_L5] at h
      refine xw_iload C d_Mod_later_5 4 rfl ?_
      refine xw_aload_n C d_Mod_later_7 0 rfl ?_
      refine xw_get C F_Mod_ok 0 rfl rfl 10 (by decide) T_483 rfl d_Mod_later_8 ?_
      refine xw_icmp_ge C d_Mod_later_11 (tgt := 56) (by decide) (fun hc14 => ?_) (fun hc14 => ?_)
      · replace h := it_t hc14 h
        exact xw_lv [0, 1, 2, 3, 4] rfl (hk _ _ h)
      · replace h := it_f hc14 h
        refine xw_aload_n C d_Mod_later_14 0 rfl ?_
        refine xw_get C F_Mod_ok 0 rfl rfl 7 (by decide) T_480 rfl d_Mod_later_15 ?_
        refine xw_bipush C d_Mod_later_18 (v := 23) (by decide) ?_
        refine xw_iload C d_Mod_later_20 4 rfl ?_
        refine xw_imul C d_Mod_later_22 ?_
        refine xw_iload_n C d_Mod_later_23 2 rfl ?_
        refine xw_iadd C d_Mod_later_24 ?_
        obtain ⟨hb7, h⟩ := gd_e h
        refine xw_zald C 7 6 rfl rfl hb7 d_Mod_later_25 ?_
        refine xw_if_ne C d_Mod_later_26 (tgt := 48) (by decide) (fun hc13 => ?_) (fun hc13 => ?_)
        · replace h := it_f hc13 h
          refine xw_iconst C d_Mod_later_48 (v := 1) (by decide) ?_
          exact fin _ _ _ _ h d_Mod_later_49 rfl
        · replace h := it_t hc13 h
          refine xw_iload_n C d_Mod_later_29 3 rfl ?_
          refine xw_if_eq C d_Mod_later_30 (tgt := 50) (by decide) (fun hc12 => ?_) (fun hc12 => ?_)
          · replace h := it_t hc12 h
            refine xw_iinc C h (fun v => [(4, .int v), (0, .ref (q 0)), (1, .int y3), (2, .int y4), (3, .int y5)]) d_Mod_later_50 4 rfl (by decide) (fun _ => rfl) (fun x8 h => ?_)
            refine xw_goto C d_Mod_later_53 (tgt := 5) (by decide) ?_
            exact xw_lv [1, 2, 3, 4, 0] rfl (ih _ _ h)
          · replace h := it_f hc12 h
            refine xw_aload_n C d_Mod_later_33 0 rfl ?_
            refine xw_get C F_Mod_ok 0 rfl rfl 6 (by decide) T_479 rfl d_Mod_later_34 ?_
            refine xw_bipush C d_Mod_later_37 (v := 23) (by decide) ?_
            refine xw_iload C d_Mod_later_39 4 rfl ?_
            refine xw_imul C d_Mod_later_41 ?_
            refine xw_iload_n C d_Mod_later_42 2 rfl ?_
            refine xw_iadd C d_Mod_later_43 ?_
            obtain ⟨hb9, h⟩ := gd_e h
            refine xw_zald C 6 5 rfl rfl hb9 d_Mod_later_44 ?_
            refine xw_if_eq C d_Mod_later_45 (tgt := 50) (by decide) (fun hc11 => ?_) (fun hc11 => ?_)
            · replace h := it_t hc11 h
              refine xw_iinc C h (fun v => [(4, .int v), (0, .ref (q 0)), (1, .int y3), (2, .int y4), (3, .int y5)]) d_Mod_later_50 4 rfl (by decide) (fun _ => rfl) (fun x10 h => ?_)
              refine xw_goto C d_Mod_later_53 (tgt := 5) (by decide) ?_
              exact xw_lv [1, 2, 3, 4, 0] rfl (ih _ _ h)
            · replace h := it_f hc11 h
              refine xw_iconst C d_Mod_later_48 (v := 1) (by decide) ?_
              exact fin _ _ _ _ h d_Mod_later_49 rfl
  unfold f_Mod_later at h
  refine xw_iload_n C d_Mod_later_0 1 rfl ?_
  refine xw_iconst C d_Mod_later_1 (v := 1) (by decide) ?_
  refine xw_iadd C d_Mod_later_2 ?_
  refine xw_ni h (fun x1 h => ?_)
  refine xw_istore C d_Mod_later_3 (by decide) (lv1 := [(4, .int x1), (0, .ref (q 0)), (1, .int a1), (2, .int a2), (3, .int a3)]) rfl ?_
  refine xw_lv [1, 2, 3, 4, 0] rfl (L5 _ _ _ _ (fun x17 s18 h => ?_) 100 _ _ h)
  refine xw_iconst C d_Mod_later_56 (v := 0) (by decide) ?_
  exact fin _ _ _ _ h d_Mod_later_57 rfl
def f_Mod_replay_L44 (y15 y16 y17 : Int32) (k : Int32 → tj_S → Option (Int32 × tj_S)) : Nat → Int32 → tj_S → Option (Int32 × tj_S)
  | 0, _, _ => none
  | n + 1, x14, s18 =>
    if (4 : Int32) ≤ x14 then
      k x14 s18
    else
      gd (inb ((((92 : Int32) * y15) + ((4 : Int32) * y17)) + x14) 736) <|
      gd (inb (((4 : Int32) * y17) + x14) 92) <|
      nm (up2 s18 1 (Int32.toNatClampNeg (((4 : Int32) * y17) + x14)) (s18 8 (Int32.toNatClampNeg ((((92 : Int32) * y15) + ((4 : Int32) * y17)) + x14)))) fun s21 =>
      nm (x14 + Int32.ofInt 1) fun x22 =>
      f_Mod_replay_L44 y15 y16 y17 k n x22 s21
def f_Mod_replay_L2 (y2 y3 : Int32) (k : Int32 → tj_S → Option (Int32 × tj_S)) : Nat → Int32 → tj_S → Option (Int32 × tj_S)
  | 0, _, _ => none
  | n + 1, x1, s4 =>
    if (23 : Int32) ≤ x1 then
      k x1 s4
    else
      gd (inb (((23 : Int32) * y2) + x1) 184) <|
      if (s4 6 (Int32.toNatClampNeg (((23 : Int32) * y2) + x1))) = (0 : Int32) then
        nm (x1 + Int32.ofInt 1) fun x6 =>
        f_Mod_replay_L2 y2 y3 k n x6 s4
      else
        bd (f_Mod_later y2 x1 y3 s4) fun r9 s8 =>
        if r9 = (0 : Int32) then
          bd (f_Mod_spend s8) fun r13 s12 =>
          if r13 = (0 : Int32) then
            some ((0 : Int32), s12)
          else
            f_Mod_replay_L44 y2 y3 x1 (fun x26 s27 =>
              nm (x1 + Int32.ofInt 1) fun x28 =>
              f_Mod_replay_L2 y2 y3 k n x28 s27) 100 (0 : Int32) s12
        else
          nm (x1 + Int32.ofInt 1) fun x10 =>
          f_Mod_replay_L2 y2 y3 k n x10 s8
def f_Mod_replay (a1 a2 : Int32) (s0 : tj_S) : Option (Int32 × tj_S) :=
  f_Mod_replay_L2 a1 a2 (fun x35 s36 =>
    some ((1 : Int32), s36)) 100 (0 : Int32) s0
set_option maxRecDepth 100000 in
set_option maxHeartbeats 4000000 in
theorem c_Mod_replay {l : Launch} {D : va_G} {K : Nat → ClassId} {q : Nat → Nat} {a1 a2 : Int32} {s0 sE : tj_S} {rE : Int32} (h : f_Mod_replay a1 a2 s0 = some (rE, sE)) : tj_Mi l D tj_cls (M_tys K) tj_N tj_T (M_cw K q) y_Mod_replay b_Mod_replay 5 .boolean 2 40 [.ref (q 0), .int a1, .int a2] s0 rE sE := by
  refine tj_start_i (by decide +kernel) (Nat.le_of_ble_eq_true rfl) (fun Γ C fin => ?_)
  show tj_W Γ (M_cw K q) s0 [(0, .ref (q 0)), (1, .int a1), (2, .int a2)] 0 []
  have L44 : ∀ (y15 y16 y17 : Int32) (k : Int32 → tj_S → Option (Int32 × tj_S)), (∀ (x24 : Int32) (s25 : tj_S), k x24 s25 = some (rE, sE) → tj_W Γ (M_cw K q) s25 [(0, .ref (q 0)), (1, .int y15), (2, .int y16), (3, .int y17), (4, .int x24)] 83 []) → ∀ (n : Nat) (x14 : Int32) (s18 : tj_S), f_Mod_replay_L44 y15 y16 y17 k n x14 s18 = some (rE, sE) → tj_W Γ (M_cw K q) s18 [(0, .ref (q 0)), (1, .int y15), (2, .int y16), (3, .int y17), (4, .int x14)] 44 [] := by
    intro y15 y16 y17 k hk n
    induction n with
    | zero => intro x14 s18 h; rw [f_Mod_replay_L44] at h; cases h
    | succ n ih =>
      intro x14 s18 h
      rw [f_Mod_replay_L44] at h
      refine xw_iload C d_Mod_replay_44 4 rfl ?_
      refine xw_iconst C d_Mod_replay_46 (v := 4) (by decide) ?_
      refine xw_icmp_ge C d_Mod_replay_47 (tgt := 83) (by decide) (fun hc23 => ?_) (fun hc23 => ?_)
      · replace h := it_t hc23 h
        exact xw_lv [0, 1, 2, 3, 4] rfl (hk _ _ h)
      · replace h := it_f hc23 h
        refine xw_aload_n C d_Mod_replay_50 0 rfl ?_
        refine xw_get C F_Mod_ok 0 rfl rfl 0 (by decide) T_473 rfl d_Mod_replay_51 ?_
        refine xw_iconst C d_Mod_replay_54 (v := 4) (by decide) ?_
        refine xw_iload_n C d_Mod_replay_55 3 rfl ?_
        refine xw_imul C d_Mod_replay_56 ?_
        refine xw_iload C d_Mod_replay_57 4 rfl ?_
        refine xw_iadd C d_Mod_replay_59 ?_
        refine xw_aload_n C d_Mod_replay_60 0 rfl ?_
        refine xw_get C F_Mod_ok 0 rfl rfl 8 (by decide) T_481 rfl d_Mod_replay_61 ?_
        refine xw_bipush C d_Mod_replay_64 (v := 92) (by decide) ?_
        refine xw_iload_n C d_Mod_replay_66 1 rfl ?_
        refine xw_imul C d_Mod_replay_67 ?_
        refine xw_iconst C d_Mod_replay_68 (v := 4) (by decide) ?_
        refine xw_iload_n C d_Mod_replay_69 3 rfl ?_
        refine xw_imul C d_Mod_replay_70 ?_
        refine xw_iadd C d_Mod_replay_71 ?_
        refine xw_iload C d_Mod_replay_72 4 rfl ?_
        refine xw_iadd C d_Mod_replay_74 ?_
        obtain ⟨hb19, h⟩ := gd_e h
        refine xw_iald C 8 7 rfl rfl hb19 d_Mod_replay_75 ?_
        obtain ⟨hb20, h⟩ := gd_e h
        refine xw_iast C 1 0 rfl rfl hb20 d_Mod_replay_76 (σ1 := (up2 s18 1 (Int32.toNatClampNeg (((4 : Int32) * y17) + x14)) (s18 8 (Int32.toNatClampNeg ((((92 : Int32) * y15) + ((4 : Int32) * y17)) + x14))))) rfl ?_
        refine xw_ns h (fun s21 h => ?_)
        refine xw_iinc C h (fun v => [(4, .int v), (0, .ref (q 0)), (1, .int y15), (2, .int y16), (3, .int y17)]) d_Mod_replay_77 4 rfl (by decide) (fun _ => rfl) (fun x22 h => ?_)
        refine xw_goto C d_Mod_replay_80 (tgt := 44) (by decide) ?_
        exact xw_lv [1, 2, 3, 4, 0] rfl (ih _ _ h)
  have L2 : ∀ (y2 y3 : Int32) (k : Int32 → tj_S → Option (Int32 × tj_S)), (∀ (x33 : Int32) (s34 : tj_S), k x33 s34 = some (rE, sE) → tj_W Γ (M_cw K q) s34 [(0, .ref (q 0)), (1, .int y2), (2, .int y3), (3, .int x33)] 89 []) → ∀ (n : Nat) (x1 : Int32) (s4 : tj_S), f_Mod_replay_L2 y2 y3 k n x1 s4 = some (rE, sE) → tj_W Γ (M_cw K q) s4 [(0, .ref (q 0)), (1, .int y2), (2, .int y3), (3, .int x1)] 2 [] := by
    intro y2 y3 k hk n
    induction n with
    | zero => intro x1 s4 h; rw [f_Mod_replay_L2] at h; cases h
    | succ n ih =>
      intro x1 s4 h
      rw [f_Mod_replay_L2] at h
      refine xw_iload_n C d_Mod_replay_2 3 rfl ?_
      refine xw_bipush C d_Mod_replay_3 (v := 23) (by decide) ?_
      refine xw_icmp_ge C d_Mod_replay_5 (tgt := 89) (by decide) (fun hc32 => ?_) (fun hc32 => ?_)
      · replace h := it_t hc32 h
        exact xw_lv [0, 1, 2, 3] rfl (hk _ _ h)
      · replace h := it_f hc32 h
        refine xw_aload_n C d_Mod_replay_8 0 rfl ?_
        refine xw_get C F_Mod_ok 0 rfl rfl 6 (by decide) T_479 rfl d_Mod_replay_9 ?_
        refine xw_bipush C d_Mod_replay_12 (v := 23) (by decide) ?_
        refine xw_iload_n C d_Mod_replay_14 1 rfl ?_
        refine xw_imul C d_Mod_replay_15 ?_
        refine xw_iload_n C d_Mod_replay_16 3 rfl ?_
        refine xw_iadd C d_Mod_replay_17 ?_
        obtain ⟨hb5, h⟩ := gd_e h
        refine xw_zald C 6 5 rfl rfl hb5 d_Mod_replay_18 ?_
        refine xw_if_eq C d_Mod_replay_19 (tgt := 83) (by decide) (fun hc31 => ?_) (fun hc31 => ?_)
        · replace h := it_t hc31 h
          refine xw_iinc C h (fun v => [(3, .int v), (0, .ref (q 0)), (1, .int y2), (2, .int y3)]) d_Mod_replay_83 3 rfl (by decide) (fun _ => rfl) (fun x6 h => ?_)
          refine xw_goto C d_Mod_replay_86 (tgt := 2) (by decide) ?_
          exact xw_lv [1, 2, 3, 0] rfl (ih _ _ h)
        · replace h := it_f hc31 h
          refine xw_aload_n C d_Mod_replay_22 0 rfl ?_
          refine xw_iload_n C d_Mod_replay_23 1 rfl ?_
          refine xw_iload_n C d_Mod_replay_24 3 rfl ?_
          refine xw_iload_n C d_Mod_replay_25 2 rfl ?_
          obtain ⟨r9, s8, hc7, h⟩ := bd_e h
          refine xw_callV_i C tj_Tg tj_Ng (n := 3) (As := [.int y2, .int x1, .int y3]) (rest := []) (c_Mod_later hc7) T_588 T_585 T_6 T_587 S_31 0 rfl rfl rfl (by decide +kernel) (by decide) rfl rfl (Nat.le_of_ble_eq_true rfl) d_Mod_replay_26 ?_
          refine xw_if_ne C d_Mod_replay_29 (tgt := 83) (by decide) (fun hc30 => ?_) (fun hc30 => ?_)
          · replace h := it_f hc30 h
            refine xw_iinc C h (fun v => [(3, .int v), (0, .ref (q 0)), (1, .int y2), (2, .int y3)]) d_Mod_replay_83 3 rfl (by decide) (fun _ => rfl) (fun x10 h => ?_)
            refine xw_goto C d_Mod_replay_86 (tgt := 2) (by decide) ?_
            exact xw_lv [1, 2, 3, 0] rfl (ih _ _ h)
          · replace h := it_t hc30 h
            refine xw_aload_n C d_Mod_replay_32 0 rfl ?_
            obtain ⟨r13, s12, hc11, h⟩ := bd_e h
            refine xw_callV_i C tj_Tg tj_Ng (n := 0) (As := []) (rest := []) (c_Mod_spend hc11) T_564 T_561 T_6 T_563 S_25 0 rfl rfl rfl (by decide +kernel) (by decide) rfl rfl (Nat.le_of_ble_eq_true rfl) d_Mod_replay_33 ?_
            refine xw_if_ne C d_Mod_replay_36 (tgt := 41) (by decide) (fun hc29 => ?_) (fun hc29 => ?_)
            · replace h := it_f hc29 h
              refine xw_iconst C d_Mod_replay_41 (v := 0) (by decide) ?_
              refine xw_istore C d_Mod_replay_42 (by decide) (lv1 := [(4, .int (0 : Int32)), (0, .ref (q 0)), (1, .int y2), (2, .int y3), (3, .int x1)]) rfl ?_
              refine xw_lv [1, 2, 3, 4, 0] rfl (L44 _ _ _ _ (fun x26 s27 h => ?_) 100 _ _ h)
              refine xw_iinc C h (fun v => [(3, .int v), (0, .ref (q 0)), (1, .int y2), (2, .int y3), (4, .int x26)]) d_Mod_replay_83 3 rfl (by decide) (fun _ => rfl) (fun x28 h => ?_)
              refine xw_goto C d_Mod_replay_86 (tgt := 2) (by decide) ?_
              exact xw_lv [1, 2, 3, 0] rfl (ih _ _ h)
            · replace h := it_t hc29 h
              refine xw_iconst C d_Mod_replay_39 (v := 0) (by decide) ?_
              exact fin _ _ _ _ h d_Mod_replay_40 rfl
  unfold f_Mod_replay at h
  refine xw_iconst C d_Mod_replay_0 (v := 0) (by decide) ?_
  refine xw_istore_n C d_Mod_replay_1 rfl (by decide) (lv1 := [(3, .int (0 : Int32)), (0, .ref (q 0)), (1, .int a1), (2, .int a2)]) rfl ?_
  refine xw_lv [1, 2, 3, 0] rfl (L2 _ _ _ (fun x35 s36 h => ?_) 100 _ _ h)
  refine xw_iconst C d_Mod_replay_89 (v := 1) (by decide) ?_
  exact fin _ _ _ _ h d_Mod_replay_90 rfl
def f_Mod_drop_L36 (y9 y10 : Int32) (k : Int32 → tj_S → Option (tj_S)) : Nat → Int32 → tj_S → Option (tj_S)
  | 0, _, _ => none
  | n + 1, x8, s11 =>
    if (23 : Int32) ≤ x8 then
      k x8 s11
    else
      gd (inb (((23 : Int32) * (y10 + y9)) + x8) 184) <|
      gd (inb (((23 : Int32) * y10) + x8) 184) <|
      nm (up2 s11 6 (Int32.toNatClampNeg (((23 : Int32) * y10) + x8)) (vp_nar .boolean (s11 6 (Int32.toNatClampNeg (((23 : Int32) * (y10 + y9)) + x8))))) fun s14 =>
      gd (inb (((23 : Int32) * (y10 + y9)) + x8) 184) <|
      gd (inb (((23 : Int32) * y10) + x8) 184) <|
      nm (up2 s14 7 (Int32.toNatClampNeg (((23 : Int32) * y10) + x8)) (vp_nar .boolean (s14 7 (Int32.toNatClampNeg (((23 : Int32) * (y10 + y9)) + x8))))) fun s17 =>
      nm (x8 + Int32.ofInt 1) fun x18 =>
      f_Mod_drop_L36 y9 y10 k n x18 s17
def f_Mod_drop_L98 (y25 y26 : Int32) (k : Int32 → tj_S → Option (tj_S)) : Nat → Int32 → tj_S → Option (tj_S)
  | 0, _, _ => none
  | n + 1, x24, s27 =>
    if (92 : Int32) ≤ x24 then
      k x24 s27
    else
      gd (inb (((92 : Int32) * (y26 + y25)) + x24) 736) <|
      gd (inb (((92 : Int32) * y26) + x24) 736) <|
      nm (up2 s27 8 (Int32.toNatClampNeg (((92 : Int32) * y26) + x24)) (s27 8 (Int32.toNatClampNeg (((92 : Int32) * (y26 + y25)) + x24)))) fun s30 =>
      nm (x24 + Int32.ofInt 1) fun x31 =>
      f_Mod_drop_L98 y25 y26 k n x31 s30
def f_Mod_drop_L12 (y3 : Int32) (k : Int32 → tj_S → Option (tj_S)) : Nat → Int32 → tj_S → Option (tj_S)
  | 0, _, _ => none
  | n + 1, x2, s4 =>
    if (s4 0 10) ≤ x2 then
      k x2 s4
    else
      gd (inb (x2 + y3) 8) <|
      gd (inb x2 8) <|
      nm (up2 s4 9 (Int32.toNatClampNeg x2) (s4 9 (Int32.toNatClampNeg (x2 + y3)))) fun s7 =>
      f_Mod_drop_L36 y3 x2 (fun x22 s23 =>
        f_Mod_drop_L98 y3 x2 (fun x35 s36 =>
          nm (x2 + Int32.ofInt 1) fun x37 =>
          f_Mod_drop_L12 y3 k n x37 s36) 100 (0 : Int32) s23) 100 (0 : Int32) s7
def f_Mod_drop (a1 : Int32) (s0 : tj_S) : Option (tj_S) :=
  nm (up2 s0 0 10 ((s0 0 10) - a1)) fun s1 =>
  f_Mod_drop_L12 a1 (fun x41 s42 =>
    some s42) 100 (0 : Int32) s1
set_option maxRecDepth 100000 in
set_option maxHeartbeats 4000000 in
theorem c_Mod_drop {l : Launch} {D : va_G} {K : Nat → ClassId} {q : Nat → Nat} {a1 : Int32} {s0 sE : tj_S} (h : f_Mod_drop a1 s0 = some sE) : tj_Mv l D tj_cls (M_tys K) tj_N tj_T (M_cw K q) y_Mod_drop b_Mod_drop 4 0 0 [.ref (q 0), .int a1] s0 sE := by
  refine tj_start_v (by decide +kernel) (Nat.le_of_ble_eq_true rfl) (fun Γ C fin => ?_)
  show tj_W Γ (M_cw K q) s0 [(0, .ref (q 0)), (1, .int a1)] 0 []
  have L36 : ∀ (y9 y10 : Int32) (k : Int32 → tj_S → Option (tj_S)), (∀ (x20 : Int32) (s21 : tj_S), k x20 s21 = some sE → tj_W Γ (M_cw K q) s21 [(0, .ref (q 0)), (1, .int y9), (2, .int y10), (3, .int x20)] 96 []) → ∀ (n : Nat) (x8 : Int32) (s11 : tj_S), f_Mod_drop_L36 y9 y10 k n x8 s11 = some sE → tj_W Γ (M_cw K q) s11 [(0, .ref (q 0)), (1, .int y9), (2, .int y10), (3, .int x8)] 36 [] := by
    intro y9 y10 k hk n
    induction n with
    | zero => intro x8 s11 h; rw [f_Mod_drop_L36] at h; cases h
    | succ n ih =>
      intro x8 s11 h
      rw [f_Mod_drop_L36] at h
      refine xw_iload_n C d_Mod_drop_36 3 rfl ?_
      refine xw_bipush C d_Mod_drop_37 (v := 23) (by decide) ?_
      refine xw_icmp_ge C d_Mod_drop_39 (tgt := 96) (by decide) (fun hc19 => ?_) (fun hc19 => ?_)
      · replace h := it_t hc19 h
        exact xw_lv [0, 1, 2, 3] rfl (hk _ _ h)
      · replace h := it_f hc19 h
        refine xw_aload_n C d_Mod_drop_42 0 rfl ?_
        refine xw_get C F_Mod_ok 0 rfl rfl 6 (by decide) T_479 rfl d_Mod_drop_43 ?_
        refine xw_bipush C d_Mod_drop_46 (v := 23) (by decide) ?_
        refine xw_iload_n C d_Mod_drop_48 2 rfl ?_
        refine xw_imul C d_Mod_drop_49 ?_
        refine xw_iload_n C d_Mod_drop_50 3 rfl ?_
        refine xw_iadd C d_Mod_drop_51 ?_
        refine xw_aload_n C d_Mod_drop_52 0 rfl ?_
        refine xw_get C F_Mod_ok 0 rfl rfl 6 (by decide) T_479 rfl d_Mod_drop_53 ?_
        refine xw_bipush C d_Mod_drop_56 (v := 23) (by decide) ?_
        refine xw_iload_n C d_Mod_drop_58 2 rfl ?_
        refine xw_iload_n C d_Mod_drop_59 1 rfl ?_
        refine xw_iadd C d_Mod_drop_60 ?_
        refine xw_imul C d_Mod_drop_61 ?_
        refine xw_iload_n C d_Mod_drop_62 3 rfl ?_
        refine xw_iadd C d_Mod_drop_63 ?_
        obtain ⟨hb12, h⟩ := gd_e h
        refine xw_zald C 6 5 rfl rfl hb12 d_Mod_drop_64 ?_
        obtain ⟨hb13, h⟩ := gd_e h
        refine xw_zast C 6 5 rfl rfl hb13 d_Mod_drop_65 (σ1 := (up2 s11 6 (Int32.toNatClampNeg (((23 : Int32) * y10) + x8)) (vp_nar .boolean (s11 6 (Int32.toNatClampNeg (((23 : Int32) * (y10 + y9)) + x8)))))) rfl ?_
        refine xw_ns h (fun s14 h => ?_)
        refine xw_aload_n C d_Mod_drop_66 0 rfl ?_
        refine xw_get C F_Mod_ok 0 rfl rfl 7 (by decide) T_480 rfl d_Mod_drop_67 ?_
        refine xw_bipush C d_Mod_drop_70 (v := 23) (by decide) ?_
        refine xw_iload_n C d_Mod_drop_72 2 rfl ?_
        refine xw_imul C d_Mod_drop_73 ?_
        refine xw_iload_n C d_Mod_drop_74 3 rfl ?_
        refine xw_iadd C d_Mod_drop_75 ?_
        refine xw_aload_n C d_Mod_drop_76 0 rfl ?_
        refine xw_get C F_Mod_ok 0 rfl rfl 7 (by decide) T_480 rfl d_Mod_drop_77 ?_
        refine xw_bipush C d_Mod_drop_80 (v := 23) (by decide) ?_
        refine xw_iload_n C d_Mod_drop_82 2 rfl ?_
        refine xw_iload_n C d_Mod_drop_83 1 rfl ?_
        refine xw_iadd C d_Mod_drop_84 ?_
        refine xw_imul C d_Mod_drop_85 ?_
        refine xw_iload_n C d_Mod_drop_86 3 rfl ?_
        refine xw_iadd C d_Mod_drop_87 ?_
        obtain ⟨hb15, h⟩ := gd_e h
        refine xw_zald C 7 6 rfl rfl hb15 d_Mod_drop_88 ?_
        obtain ⟨hb16, h⟩ := gd_e h
        refine xw_zast C 7 6 rfl rfl hb16 d_Mod_drop_89 (σ1 := (up2 s14 7 (Int32.toNatClampNeg (((23 : Int32) * y10) + x8)) (vp_nar .boolean (s14 7 (Int32.toNatClampNeg (((23 : Int32) * (y10 + y9)) + x8)))))) rfl ?_
        refine xw_ns h (fun s17 h => ?_)
        refine xw_iinc C h (fun v => [(3, .int v), (0, .ref (q 0)), (1, .int y9), (2, .int y10)]) d_Mod_drop_90 3 rfl (by decide) (fun _ => rfl) (fun x18 h => ?_)
        refine xw_goto C d_Mod_drop_93 (tgt := 36) (by decide) ?_
        exact xw_lv [1, 2, 3, 0] rfl (ih _ _ h)
  have L98 : ∀ (y25 y26 : Int32) (k : Int32 → tj_S → Option (tj_S)), (∀ (x33 : Int32) (s34 : tj_S), k x33 s34 = some sE → tj_W Γ (M_cw K q) s34 [(0, .ref (q 0)), (1, .int y25), (2, .int y26), (3, .int x33)] 134 []) → ∀ (n : Nat) (x24 : Int32) (s27 : tj_S), f_Mod_drop_L98 y25 y26 k n x24 s27 = some sE → tj_W Γ (M_cw K q) s27 [(0, .ref (q 0)), (1, .int y25), (2, .int y26), (3, .int x24)] 98 [] := by
    intro y25 y26 k hk n
    induction n with
    | zero => intro x24 s27 h; rw [f_Mod_drop_L98] at h; cases h
    | succ n ih =>
      intro x24 s27 h
      rw [f_Mod_drop_L98] at h
      refine xw_iload_n C d_Mod_drop_98 3 rfl ?_
      refine xw_bipush C d_Mod_drop_99 (v := 92) (by decide) ?_
      refine xw_icmp_ge C d_Mod_drop_101 (tgt := 134) (by decide) (fun hc32 => ?_) (fun hc32 => ?_)
      · replace h := it_t hc32 h
        exact xw_lv [0, 1, 2, 3] rfl (hk _ _ h)
      · replace h := it_f hc32 h
        refine xw_aload_n C d_Mod_drop_104 0 rfl ?_
        refine xw_get C F_Mod_ok 0 rfl rfl 8 (by decide) T_481 rfl d_Mod_drop_105 ?_
        refine xw_bipush C d_Mod_drop_108 (v := 92) (by decide) ?_
        refine xw_iload_n C d_Mod_drop_110 2 rfl ?_
        refine xw_imul C d_Mod_drop_111 ?_
        refine xw_iload_n C d_Mod_drop_112 3 rfl ?_
        refine xw_iadd C d_Mod_drop_113 ?_
        refine xw_aload_n C d_Mod_drop_114 0 rfl ?_
        refine xw_get C F_Mod_ok 0 rfl rfl 8 (by decide) T_481 rfl d_Mod_drop_115 ?_
        refine xw_bipush C d_Mod_drop_118 (v := 92) (by decide) ?_
        refine xw_iload_n C d_Mod_drop_120 2 rfl ?_
        refine xw_iload_n C d_Mod_drop_121 1 rfl ?_
        refine xw_iadd C d_Mod_drop_122 ?_
        refine xw_imul C d_Mod_drop_123 ?_
        refine xw_iload_n C d_Mod_drop_124 3 rfl ?_
        refine xw_iadd C d_Mod_drop_125 ?_
        obtain ⟨hb28, h⟩ := gd_e h
        refine xw_iald C 8 7 rfl rfl hb28 d_Mod_drop_126 ?_
        obtain ⟨hb29, h⟩ := gd_e h
        refine xw_iast C 8 7 rfl rfl hb29 d_Mod_drop_127 (σ1 := (up2 s27 8 (Int32.toNatClampNeg (((92 : Int32) * y26) + x24)) (s27 8 (Int32.toNatClampNeg (((92 : Int32) * (y26 + y25)) + x24))))) rfl ?_
        refine xw_ns h (fun s30 h => ?_)
        refine xw_iinc C h (fun v => [(3, .int v), (0, .ref (q 0)), (1, .int y25), (2, .int y26)]) d_Mod_drop_128 3 rfl (by decide) (fun _ => rfl) (fun x31 h => ?_)
        refine xw_goto C d_Mod_drop_131 (tgt := 98) (by decide) ?_
        exact xw_lv [1, 2, 3, 0] rfl (ih _ _ h)
  have L12 : ∀ (y3 : Int32) (k : Int32 → tj_S → Option (tj_S)), (∀ (x39 : Int32) (s40 : tj_S), k x39 s40 = some sE → tj_W Γ (M_cw K q) s40 [(0, .ref (q 0)), (1, .int y3), (2, .int x39)] 140 []) → ∀ (n : Nat) (x2 : Int32) (s4 : tj_S), f_Mod_drop_L12 y3 k n x2 s4 = some sE → tj_W Γ (M_cw K q) s4 [(0, .ref (q 0)), (1, .int y3), (2, .int x2)] 12 [] := by
    intro y3 k hk n
    induction n with
    | zero => intro x2 s4 h; rw [f_Mod_drop_L12] at h; cases h
    | succ n ih =>
      intro x2 s4 h
      rw [f_Mod_drop_L12] at h
      refine xw_iload_n C d_Mod_drop_12 2 rfl ?_
      refine xw_aload_n C d_Mod_drop_13 0 rfl ?_
      refine xw_get C F_Mod_ok 0 rfl rfl 10 (by decide) T_483 rfl d_Mod_drop_14 ?_
      refine xw_icmp_ge C d_Mod_drop_17 (tgt := 140) (by decide) (fun hc38 => ?_) (fun hc38 => ?_)
      · replace h := it_t hc38 h
        exact xw_lv [0, 1, 2] rfl (hk _ _ h)
      · replace h := it_f hc38 h
        refine xw_aload_n C d_Mod_drop_20 0 rfl ?_
        refine xw_get C F_Mod_ok 0 rfl rfl 9 (by decide) T_482 rfl d_Mod_drop_21 ?_
        refine xw_iload_n C d_Mod_drop_24 2 rfl ?_
        refine xw_aload_n C d_Mod_drop_25 0 rfl ?_
        refine xw_get C F_Mod_ok 0 rfl rfl 9 (by decide) T_482 rfl d_Mod_drop_26 ?_
        refine xw_iload_n C d_Mod_drop_29 2 rfl ?_
        refine xw_iload_n C d_Mod_drop_30 1 rfl ?_
        refine xw_iadd C d_Mod_drop_31 ?_
        obtain ⟨hb5, h⟩ := gd_e h
        refine xw_iald C 9 8 rfl rfl hb5 d_Mod_drop_32 ?_
        obtain ⟨hb6, h⟩ := gd_e h
        refine xw_iast C 9 8 rfl rfl hb6 d_Mod_drop_33 (σ1 := (up2 s4 9 (Int32.toNatClampNeg x2) (s4 9 (Int32.toNatClampNeg (x2 + y3))))) rfl ?_
        refine xw_ns h (fun s7 h => ?_)
        refine xw_iconst C d_Mod_drop_34 (v := 0) (by decide) ?_
        refine xw_istore_n C d_Mod_drop_35 rfl (by decide) (lv1 := [(3, .int (0 : Int32)), (0, .ref (q 0)), (1, .int y3), (2, .int x2)]) rfl ?_
        refine xw_lv [1, 2, 3, 0] rfl (L36 _ _ _ (fun x22 s23 h => ?_) 100 _ _ h)
        refine xw_iconst C d_Mod_drop_96 (v := 0) (by decide) ?_
        refine xw_istore_n C d_Mod_drop_97 rfl (by decide) (lv1 := [(3, .int (0 : Int32)), (0, .ref (q 0)), (1, .int y3), (2, .int x2)]) rfl ?_
        refine xw_lv [1, 2, 3, 0] rfl (L98 _ _ _ (fun x35 s36 h => ?_) 100 _ _ h)
        refine xw_iinc C h (fun v => [(2, .int v), (0, .ref (q 0)), (1, .int y3), (3, .int x35)]) d_Mod_drop_134 2 rfl (by decide) (fun _ => rfl) (fun x37 h => ?_)
        refine xw_goto C d_Mod_drop_137 (tgt := 12) (by decide) ?_
        exact xw_lv [1, 2, 0] rfl (ih _ _ h)
  unfold f_Mod_drop at h
  refine xw_aload_n C d_Mod_drop_0 0 rfl ?_
  refine xw_aload_n C d_Mod_drop_1 0 rfl ?_
  refine xw_get C F_Mod_ok 0 rfl rfl 10 (by decide) T_483 rfl d_Mod_drop_2 ?_
  refine xw_iload_n C d_Mod_drop_5 1 rfl ?_
  refine xw_isub C d_Mod_drop_6 ?_
  refine xw_put C F_Mod_ok 0 rfl rfl 10 (by decide) T_483 rfl rfl rfl (Nat.le_of_ble_eq_true rfl) d_Mod_drop_7 (σ1 := (up2 s0 0 10 ((s0 0 10) - a1))) rfl ?_
  refine xw_ns h (fun s1 h => ?_)
  refine xw_iconst C d_Mod_drop_10 (v := 0) (by decide) ?_
  refine xw_istore_n C d_Mod_drop_11 rfl (by decide) (lv1 := [(2, .int (0 : Int32)), (0, .ref (q 0)), (1, .int a1)]) rfl ?_
  refine xw_lv [1, 2, 0] rfl (L12 _ _ (fun x41 s42 h => ?_) 100 _ _ h)
  exact fin _ _ _ h d_Mod_drop_140
def f_Mod_retire_L2 (y2 : Int32) (k : Int32 → tj_S → Option (Int32 × tj_S)) : Nat → Int32 → tj_S → Option (Int32 × tj_S)
  | 0, _, _ => none
  | n + 1, x1, s3 =>
    if y2 ≤ x1 then
      k x1 s3
    else
      bd (f_Mod_replay x1 (1 : Int32) s3) fun r6 s5 =>
      if r6 = (0 : Int32) then
        some ((0 : Int32), s5)
      else
        nm (x1 + Int32.ofInt 1) fun x7 =>
        f_Mod_retire_L2 y2 k n x7 s5
def f_Mod_retire (a1 : Int32) (s0 : tj_S) : Option (Int32 × tj_S) :=
  f_Mod_retire_L2 a1 (fun x12 s13 =>
    bd (f_Mod_spend s13) fun r16 s15 =>
    if r16 = (0 : Int32) then
      some ((0 : Int32), s15)
    else
      bv (f_Mod_drop a1 s15) fun s18 =>
      some ((1 : Int32), s18)) 100 (0 : Int32) s0
set_option maxRecDepth 100000 in
set_option maxHeartbeats 4000000 in
theorem c_Mod_retire {l : Launch} {D : va_G} {K : Nat → ClassId} {q : Nat → Nat} {a1 : Int32} {s0 sE : tj_S} {rE : Int32} (h : f_Mod_retire a1 s0 = some (rE, sE)) : tj_Mi l D tj_cls (M_tys K) tj_N tj_T (M_cw K q) y_Mod_retire b_Mod_retire 3 .boolean 3 64 [.ref (q 0), .int a1] s0 rE sE := by
  refine tj_start_i (by decide +kernel) (Nat.le_of_ble_eq_true rfl) (fun Γ C fin => ?_)
  show tj_W Γ (M_cw K q) s0 [(0, .ref (q 0)), (1, .int a1)] 0 []
  have L2 : ∀ (y2 : Int32) (k : Int32 → tj_S → Option (Int32 × tj_S)), (∀ (x10 : Int32) (s11 : tj_S), k x10 s11 = some (rE, sE) → tj_W Γ (M_cw K q) s11 [(0, .ref (q 0)), (1, .int y2), (2, .int x10)] 24 []) → ∀ (n : Nat) (x1 : Int32) (s3 : tj_S), f_Mod_retire_L2 y2 k n x1 s3 = some (rE, sE) → tj_W Γ (M_cw K q) s3 [(0, .ref (q 0)), (1, .int y2), (2, .int x1)] 2 [] := by
    intro y2 k hk n
    induction n with
    | zero => intro x1 s3 h; rw [f_Mod_retire_L2] at h; cases h
    | succ n ih =>
      intro x1 s3 h
      rw [f_Mod_retire_L2] at h
      refine xw_iload_n C d_Mod_retire_2 2 rfl ?_
      refine xw_iload_n C d_Mod_retire_3 1 rfl ?_
      refine xw_icmp_ge C d_Mod_retire_4 (tgt := 24) (by decide) (fun hc9 => ?_) (fun hc9 => ?_)
      · replace h := it_t hc9 h
        exact xw_lv [0, 1, 2] rfl (hk _ _ h)
      · replace h := it_f hc9 h
        refine xw_aload_n C d_Mod_retire_7 0 rfl ?_
        refine xw_iload_n C d_Mod_retire_8 2 rfl ?_
        refine xw_iconst C d_Mod_retire_9 (v := 1) (by decide) ?_
        obtain ⟨r6, s5, hc4, h⟩ := bd_e h
        refine xw_callV_i C tj_Tg tj_Ng (n := 2) (As := [.int x1, .int (1 : Int32)]) (rest := []) (c_Mod_replay hc4) T_584 T_581 T_6 T_583 S_30 0 rfl rfl rfl (by decide +kernel) (by decide) rfl rfl (Nat.le_of_ble_eq_true rfl) d_Mod_retire_10 ?_
        refine xw_if_ne C d_Mod_retire_13 (tgt := 18) (by decide) (fun hc8 => ?_) (fun hc8 => ?_)
        · replace h := it_f hc8 h
          refine xw_iinc C h (fun v => [(2, .int v), (0, .ref (q 0)), (1, .int y2)]) d_Mod_retire_18 2 rfl (by decide) (fun _ => rfl) (fun x7 h => ?_)
          refine xw_goto C d_Mod_retire_21 (tgt := 2) (by decide) ?_
          exact xw_lv [1, 2, 0] rfl (ih _ _ h)
        · replace h := it_t hc8 h
          refine xw_iconst C d_Mod_retire_16 (v := 0) (by decide) ?_
          exact fin _ _ _ _ h d_Mod_retire_17 rfl
  unfold f_Mod_retire at h
  refine xw_iconst C d_Mod_retire_0 (v := 0) (by decide) ?_
  refine xw_istore_n C d_Mod_retire_1 rfl (by decide) (lv1 := [(2, .int (0 : Int32)), (0, .ref (q 0)), (1, .int a1)]) rfl ?_
  refine xw_lv [1, 2, 0] rfl (L2 _ _ (fun x12 s13 h => ?_) 100 _ _ h)
  refine xw_aload_n C d_Mod_retire_24 0 rfl ?_
  obtain ⟨r16, s15, hc14, h⟩ := bd_e h
  refine xw_callV_i C tj_Tg tj_Ng (n := 0) (As := []) (rest := []) (c_Mod_spend hc14) T_564 T_561 T_6 T_563 S_25 0 rfl rfl rfl (by decide +kernel) (by decide) rfl rfl (Nat.le_of_ble_eq_true rfl) d_Mod_retire_25 ?_
  refine xw_if_ne C d_Mod_retire_28 (tgt := 33) (by decide) (fun hc19 => ?_) (fun hc19 => ?_)
  · replace h := it_f hc19 h
    refine xw_aload_n C d_Mod_retire_33 0 rfl ?_
    refine xw_iload_n C d_Mod_retire_34 1 rfl ?_
    obtain ⟨s18, hc17, h⟩ := bv_e h
    refine xw_callV_v C tj_Tg tj_Ng (n := 1) (As := [.int a1]) (rest := []) (c_Mod_drop hc17) T_592 T_589 T_6 T_591 S_32 0 rfl rfl rfl (by decide +kernel) (by decide) rfl rfl (Nat.le_of_ble_eq_true rfl) d_Mod_retire_35 ?_
    refine xw_iconst C d_Mod_retire_38 (v := 1) (by decide) ?_
    exact fin _ _ _ _ h d_Mod_retire_39 rfl
  · replace h := it_t hc19 h
    refine xw_iconst C d_Mod_retire_31 (v := 0) (by decide) ?_
    exact fin _ _ _ _ h d_Mod_retire_32 rfl
def f_Mod_seal_L0 (k : tj_S → Option (Int32 × tj_S)) : Nat → tj_S → Option (Int32 × tj_S)
  | 0, _ => none
  | n + 1, s1 =>
    if (s1 0 13) = (1 : Int32) then
      if (s1 0 5) ≤ (0 : Int32) then
        k s1
      else
        bd (f_Mod_bring (0 : Int32) s1) fun r4 s3 =>
        if r4 = (0 : Int32) then
          some ((-2 : Int32), s3)
        else
          f_Mod_seal_L0 k n s3
    else
      k s1
def f_Mod_seal_L44 (y18 : Int32) (k : Int32 → Int32 → tj_S → Option (Int32 × tj_S)) : Nat → Int32 → Int32 → tj_S → Option (Int32 × tj_S)
  | 0, _, _, _ => none
  | n + 1, x16, x17, s19 =>
    if y18 ≤ x16 then
      k x16 x17 s19
    else
      if (s19 0 10) ≤ x17 then
        k x16 x17 s19
      else
        gd (inb x17 8) <|
        nm ((x16 + (s19 9 (Int32.toNatClampNeg x17)))) fun x21 =>
        nm (x17 + Int32.ofInt 1) fun x22 =>
        f_Mod_seal_L44 y18 k n x21 x22 s19
def f_Mod_seal_L90 (y32 y33 y34 : Int32) (k : Int32 → tj_S → Option (Int32 × tj_S)) : Nat → Int32 → tj_S → Option (Int32 × tj_S)
  | 0, _, _ => none
  | n + 1, x31, s35 =>
    if y32 ≤ x31 then
      k x31 s35
    else
      bd (f_Mod_spend s35) fun r38 s37 =>
      if r38 = (0 : Int32) then
        some ((-2 : Int32), s37)
      else
        nm (x31 + Int32.ofInt 1) fun x39 =>
        f_Mod_seal_L90 y32 y33 y34 k n x39 s37
def f_Mod_seal (s0 : tj_S) : Option (Int32 × tj_S) :=
  f_Mod_seal_L0 (fun s9 =>
    bd (f_Mod_needs s9) fun r12 s11 =>
    if r12 = (0 : Int32) then
      some ((0 : Int32), s11)
    else
      bd (f_Mod_vacant s11) fun r15 s14 =>
      f_Mod_seal_L44 r12 (fun x28 x29 s30 =>
        if x29 ≤ (0 : Int32) then
          f_Mod_seal_L90 r12 x28 x29 (fun x44 s45 =>
            bv (f_Mod_enter r12 s45) fun s47 =>
            some (r12, s47)) 100 (0 : Int32) s30
        else
          bd (f_Mod_retire x29 s30) fun r50 s49 =>
          if r50 = (0 : Int32) then
            some ((-2 : Int32), s49)
          else
            f_Mod_seal_L90 r12 x28 x29 (fun x51 s52 =>
              bv (f_Mod_enter r12 s52) fun s54 =>
              some (r12, s54)) 100 (0 : Int32) s49) 100 r15 (0 : Int32) s14) 100 s0
set_option maxRecDepth 100000 in
set_option maxHeartbeats 4000000 in
theorem c_Mod_seal {l : Launch} {D : va_G} {K : Nat → ClassId} {q : Nat → Nat} {s0 sE : tj_S} {rE : Int32} (h : f_Mod_seal s0 = some (rE, sE)) : tj_Mi l D tj_cls (M_tys K) tj_N tj_T (M_cw K q) y_Mod_seal b_Mod_seal 5 .int 4 86 [.ref (q 0)] s0 rE sE := by
  refine tj_start_i (by decide +kernel) (Nat.le_of_ble_eq_true rfl) (fun Γ C fin => ?_)
  show tj_W Γ (M_cw K q) s0 [(0, .ref (q 0))] 0 []
  have L0 : ∀ (k : tj_S → Option (Int32 × tj_S)), (∀ (s8 : tj_S), k s8 = some (rE, sE) → tj_W Γ (M_cw K q) s8 [(0, .ref (q 0))] 26 []) → ∀ (n : Nat) (s1 : tj_S), f_Mod_seal_L0 k n s1 = some (rE, sE) → tj_W Γ (M_cw K q) s1 [(0, .ref (q 0))] 0 [] := by
    intro k hk n
    induction n with
    | zero => intro  s1 h; rw [f_Mod_seal_L0] at h; cases h
    | succ n ih =>
      intro  s1 h
      rw [f_Mod_seal_L0] at h
      refine xw_aload_n C d_Mod_seal_0 0 rfl ?_
      refine xw_get C F_Mod_ok 0 rfl rfl 13 (by decide) T_486 rfl d_Mod_seal_1 ?_
      refine xw_iconst C d_Mod_seal_4 (v := 1) (by decide) ?_
      refine xw_icmp_ne C d_Mod_seal_5 (tgt := 26) (by decide) (fun hc7 => ?_) (fun hc7 => ?_)
      · replace h := it_f hc7 h
        exact xw_lv [0] rfl (hk _ h)
      · replace h := it_t hc7 h
        refine xw_aload_n C d_Mod_seal_8 0 rfl ?_
        refine xw_get C F_Mod_ok 0 rfl rfl 5 (by decide) T_478 rfl d_Mod_seal_9 ?_
        refine xw_if_le C d_Mod_seal_12 (tgt := 26) (by decide) (fun hc6 => ?_) (fun hc6 => ?_)
        · replace h := it_t hc6 h
          exact xw_lv [0] rfl (hk _ h)
        · replace h := it_f hc6 h
          refine xw_aload_n C d_Mod_seal_15 0 rfl ?_
          refine xw_iconst C d_Mod_seal_16 (v := 0) (by decide) ?_
          obtain ⟨r4, s3, hc2, h⟩ := bd_e h
          refine xw_callV_i C tj_Tg tj_Ng (n := 1) (As := [.int (0 : Int32)]) (rest := []) (c_Mod_bring hc2) T_560 T_557 T_6 T_559 S_24 0 rfl rfl rfl (by decide +kernel) (by decide) rfl rfl (Nat.le_of_ble_eq_true rfl) d_Mod_seal_17 ?_
          refine xw_if_ne C d_Mod_seal_20 (tgt := 0) (by decide) (fun hc5 => ?_) (fun hc5 => ?_)
          · replace h := it_f hc5 h
            exact xw_lv [0] rfl (ih _ h)
          · replace h := it_t hc5 h
            refine xw_bipush C d_Mod_seal_23 (v := -2) (by decide) ?_
            exact fin _ _ _ _ h d_Mod_seal_25 rfl
  have L44 : ∀ (y18 : Int32) (k : Int32 → Int32 → tj_S → Option (Int32 × tj_S)), (∀ (x25 x26 : Int32) (s27 : tj_S), k x25 x26 s27 = some (rE, sE) → tj_W Γ (M_cw K q) s27 [(0, .ref (q 0)), (1, .int y18), (2, .int x25), (3, .int x26)] 72 []) → ∀ (n : Nat) (x16 x17 : Int32) (s19 : tj_S), f_Mod_seal_L44 y18 k n x16 x17 s19 = some (rE, sE) → tj_W Γ (M_cw K q) s19 [(0, .ref (q 0)), (1, .int y18), (2, .int x16), (3, .int x17)] 44 [] := by
    intro y18 k hk n
    induction n with
    | zero => intro x16 x17 s19 h; rw [f_Mod_seal_L44] at h; cases h
    | succ n ih =>
      intro x16 x17 s19 h
      rw [f_Mod_seal_L44] at h
      refine xw_iload_n C d_Mod_seal_44 2 rfl ?_
      refine xw_iload_n C d_Mod_seal_45 1 rfl ?_
      refine xw_icmp_ge C d_Mod_seal_46 (tgt := 72) (by decide) (fun hc24 => ?_) (fun hc24 => ?_)
      · replace h := it_t hc24 h
        exact xw_lv [0, 1, 2, 3] rfl (hk _ _ _ h)
      · replace h := it_f hc24 h
        refine xw_iload_n C d_Mod_seal_49 3 rfl ?_
        refine xw_aload_n C d_Mod_seal_50 0 rfl ?_
        refine xw_get C F_Mod_ok 0 rfl rfl 10 (by decide) T_483 rfl d_Mod_seal_51 ?_
        refine xw_icmp_ge C d_Mod_seal_54 (tgt := 72) (by decide) (fun hc23 => ?_) (fun hc23 => ?_)
        · replace h := it_t hc23 h
          exact xw_lv [0, 1, 2, 3] rfl (hk _ _ _ h)
        · replace h := it_f hc23 h
          refine xw_iload_n C d_Mod_seal_57 2 rfl ?_
          refine xw_aload_n C d_Mod_seal_58 0 rfl ?_
          refine xw_get C F_Mod_ok 0 rfl rfl 9 (by decide) T_482 rfl d_Mod_seal_59 ?_
          refine xw_iload_n C d_Mod_seal_62 3 rfl ?_
          obtain ⟨hb20, h⟩ := gd_e h
          refine xw_iald C 9 8 rfl rfl hb20 d_Mod_seal_63 ?_
          refine xw_iadd C d_Mod_seal_64 ?_
          refine xw_ni h (fun x21 h => ?_)
          refine xw_istore_n C d_Mod_seal_65 rfl (by decide) (lv1 := [(2, .int x21), (0, .ref (q 0)), (1, .int y18), (3, .int x17)]) rfl ?_
          refine xw_iinc C h (fun v => [(3, .int v), (2, .int x21), (0, .ref (q 0)), (1, .int y18)]) d_Mod_seal_66 3 rfl (by decide) (fun _ => rfl) (fun x22 h => ?_)
          refine xw_goto C d_Mod_seal_69 (tgt := 44) (by decide) ?_
          exact xw_lv [2, 3, 1, 0] rfl (ih _ _ _ h)
  have L90 : ∀ (y32 y33 y34 : Int32) (k : Int32 → tj_S → Option (Int32 × tj_S)), (∀ (x42 : Int32) (s43 : tj_S), k x42 s43 = some (rE, sE) → tj_W Γ (M_cw K q) s43 [(0, .ref (q 0)), (1, .int y32), (2, .int y33), (3, .int y34), (4, .int x42)] 112 []) → ∀ (n : Nat) (x31 : Int32) (s35 : tj_S), f_Mod_seal_L90 y32 y33 y34 k n x31 s35 = some (rE, sE) → tj_W Γ (M_cw K q) s35 [(0, .ref (q 0)), (1, .int y32), (2, .int y33), (3, .int y34), (4, .int x31)] 90 [] := by
    intro y32 y33 y34 k hk n
    induction n with
    | zero => intro x31 s35 h; rw [f_Mod_seal_L90] at h; cases h
    | succ n ih =>
      intro x31 s35 h
      rw [f_Mod_seal_L90] at h
      refine xw_iload C d_Mod_seal_90 4 rfl ?_
      refine xw_iload_n C d_Mod_seal_92 1 rfl ?_
      refine xw_icmp_ge C d_Mod_seal_93 (tgt := 112) (by decide) (fun hc41 => ?_) (fun hc41 => ?_)
      · replace h := it_t hc41 h
        exact xw_lv [0, 1, 2, 3, 4] rfl (hk _ _ h)
      · replace h := it_f hc41 h
        refine xw_aload_n C d_Mod_seal_96 0 rfl ?_
        obtain ⟨r38, s37, hc36, h⟩ := bd_e h
        refine xw_callV_i C tj_Tg tj_Ng (n := 0) (As := []) (rest := []) (c_Mod_spend hc36) T_564 T_561 T_6 T_563 S_25 0 rfl rfl rfl (by decide +kernel) (by decide) rfl rfl (Nat.le_of_ble_eq_true rfl) d_Mod_seal_97 ?_
        refine xw_if_ne C d_Mod_seal_100 (tgt := 106) (by decide) (fun hc40 => ?_) (fun hc40 => ?_)
        · replace h := it_f hc40 h
          refine xw_iinc C h (fun v => [(4, .int v), (0, .ref (q 0)), (1, .int y32), (2, .int y33), (3, .int y34)]) d_Mod_seal_106 4 rfl (by decide) (fun _ => rfl) (fun x39 h => ?_)
          refine xw_goto C d_Mod_seal_109 (tgt := 90) (by decide) ?_
          exact xw_lv [1, 2, 3, 4, 0] rfl (ih _ _ h)
        · replace h := it_t hc40 h
          refine xw_bipush C d_Mod_seal_103 (v := -2) (by decide) ?_
          exact fin _ _ _ _ h d_Mod_seal_105 rfl
  unfold f_Mod_seal at h
  refine xw_lv [0] rfl (L0 _ (fun s9 h => ?_) 100 _ h)
  refine xw_aload_n C d_Mod_seal_26 0 rfl ?_
  obtain ⟨r12, s11, hc10, h⟩ := bd_e h
  refine xw_callV_i C tj_Tg tj_Ng (n := 0) (As := []) (rest := []) (c_Mod_needs hc10) T_552 T_549 T_6 T_551 S_22 0 rfl rfl rfl (by decide +kernel) (by decide) rfl rfl (Nat.le_of_ble_eq_true rfl) d_Mod_seal_27 ?_
  refine xw_istore_n C d_Mod_seal_30 rfl (by decide) (lv1 := [(1, .int r12), (0, .ref (q 0))]) rfl ?_
  refine xw_iload_n C d_Mod_seal_31 0 rfl ?_
  refine xw_if_ne C d_Mod_seal_32 (tgt := 37) (by decide) (fun hc57 => ?_) (fun hc57 => ?_)
  · replace h := it_f hc57 h
    refine xw_aload_n C d_Mod_seal_37 1 rfl ?_
    obtain ⟨r15, s14, hc13, h⟩ := bd_e h
    refine xw_callV_i C tj_Tg tj_Ng (n := 0) (As := []) (rest := []) (c_Mod_vacant hc13) T_576 T_573 T_6 T_575 S_28 0 rfl rfl rfl (by decide +kernel) (by decide) rfl rfl (Nat.le_of_ble_eq_true rfl) d_Mod_seal_38 ?_
    refine xw_istore_n C d_Mod_seal_41 rfl (by decide) (lv1 := [(2, .int r15), (1, .int r12), (0, .ref (q 0))]) rfl ?_
    refine xw_iconst C d_Mod_seal_42 (v := 0) (by decide) ?_
    refine xw_istore_n C d_Mod_seal_43 rfl (by decide) (lv1 := [(3, .int (0 : Int32)), (2, .int r15), (1, .int r12), (0, .ref (q 0))]) rfl ?_
    refine xw_lv [3, 2, 1, 0] rfl (L44 _ _ (fun x28 x29 s30 h => ?_) 100 _ _ _ h)
    refine xw_iload_n C d_Mod_seal_72 3 rfl ?_
    refine xw_if_le C d_Mod_seal_73 (tgt := 87) (by decide) (fun hc56 => ?_) (fun hc56 => ?_)
    · replace h := it_t hc56 h
      refine xw_iconst C d_Mod_seal_87 (v := 0) (by decide) ?_
      refine xw_istore C d_Mod_seal_88 (by decide) (lv1 := [(4, .int (0 : Int32)), (0, .ref (q 0)), (1, .int r12), (2, .int x28), (3, .int x29)]) rfl ?_
      refine xw_lv [1, 2, 3, 4, 0] rfl (L90 _ _ _ _ (fun x44 s45 h => ?_) 100 _ _ h)
      refine xw_aload_n C d_Mod_seal_112 0 rfl ?_
      refine xw_iload_n C d_Mod_seal_113 1 rfl ?_
      obtain ⟨s47, hc46, h⟩ := bv_e h
      refine xw_callV_v C tj_Tg tj_Ng (n := 1) (As := [.int r12]) (rest := []) (c_Mod_enter hc46) T_596 T_593 T_6 T_595 S_33 0 rfl rfl rfl (by decide +kernel) (by decide) rfl rfl (Nat.le_of_ble_eq_true rfl) d_Mod_seal_114 ?_
      refine xw_iload_n C d_Mod_seal_117 1 rfl ?_
      exact fin _ _ _ _ h d_Mod_seal_118 rfl
    · replace h := it_f hc56 h
      refine xw_aload_n C d_Mod_seal_76 0 rfl ?_
      refine xw_iload_n C d_Mod_seal_77 3 rfl ?_
      obtain ⟨r50, s49, hc48, h⟩ := bd_e h
      refine xw_callV_i C tj_Tg tj_Ng (n := 1) (As := [.int x29]) (rest := []) (c_Mod_retire hc48) T_580 T_577 T_6 T_579 S_29 0 rfl rfl rfl (by decide +kernel) (by decide) rfl rfl (Nat.le_of_ble_eq_true rfl) d_Mod_seal_78 ?_
      refine xw_if_ne C d_Mod_seal_81 (tgt := 87) (by decide) (fun hc55 => ?_) (fun hc55 => ?_)
      · replace h := it_f hc55 h
        refine xw_iconst C d_Mod_seal_87 (v := 0) (by decide) ?_
        refine xw_istore C d_Mod_seal_88 (by decide) (lv1 := [(4, .int (0 : Int32)), (0, .ref (q 0)), (1, .int r12), (2, .int x28), (3, .int x29)]) rfl ?_
        refine xw_lv [1, 2, 3, 4, 0] rfl (L90 _ _ _ _ (fun x51 s52 h => ?_) 100 _ _ h)
        refine xw_aload_n C d_Mod_seal_112 0 rfl ?_
        refine xw_iload_n C d_Mod_seal_113 1 rfl ?_
        obtain ⟨s54, hc53, h⟩ := bv_e h
        refine xw_callV_v C tj_Tg tj_Ng (n := 1) (As := [.int r12]) (rest := []) (c_Mod_enter hc53) T_596 T_593 T_6 T_595 S_33 0 rfl rfl rfl (by decide +kernel) (by decide) rfl rfl (Nat.le_of_ble_eq_true rfl) d_Mod_seal_114 ?_
        refine xw_iload_n C d_Mod_seal_117 1 rfl ?_
        exact fin _ _ _ _ h d_Mod_seal_118 rfl
      · replace h := it_t hc55 h
        refine xw_bipush C d_Mod_seal_84 (v := -2) (by decide) ?_
        exact fin _ _ _ _ h d_Mod_seal_86 rfl
  · replace h := it_t hc57 h
    refine xw_iconst C d_Mod_seal_35 (v := 0) (by decide) ?_
    exact fin _ _ _ _ h d_Mod_seal_36 rfl
