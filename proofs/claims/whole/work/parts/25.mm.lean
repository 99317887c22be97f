def f_Mod_owns_L2 (y2 y3 : Int32) (k : Int32 → tj_S → Option (Int32 × tj_S)) : Nat → Int32 → tj_S → Option (Int32 × tj_S)
  | 0, _, _ => none
  | n + 1, x1, s4 =>
    if (6 : Int32) ≤ x1 then
      k x1 s4
    else
      gd (inb ((4 : Int32) * y2) 92) <|
      if (s4 2 (Int32.toNatClampNeg ((4 : Int32) * y2))) ≤ ((4 : Int32) * x1) then
        nm (x1 + Int32.ofInt 1) fun x6 =>
        f_Mod_owns_L2 y2 y3 k n x6 s4
      else
        bd (f_Mod_cell y2 x1 s4) fun r9 s8 =>
        gd (inb r9 92) <|
        if (s8 2 (Int32.toNatClampNeg r9)) = y3 then
          some ((1 : Int32), s8)
        else
          nm (x1 + Int32.ofInt 1) fun x11 =>
          f_Mod_owns_L2 y2 y3 k n x11 s8
def f_Mod_owns (a1 a2 : Int32) (s0 : tj_S) : Option (Int32 × tj_S) :=
  f_Mod_owns_L2 a1 a2 (fun x17 s18 =>
    some ((0 : Int32), s18)) 100 (0 : Int32) s0
set_option maxRecDepth 100000 in
set_option maxHeartbeats 4000000 in
theorem c_Mod_owns {l : Launch} {D : va_G} {K : Nat → ClassId} {q : Nat → Nat} {a1 a2 : Int32} {s0 sE : tj_S} {rE : Int32} (h : f_Mod_owns a1 a2 s0 = some (rE, sE)) : tj_Mi l D tj_cls (M_tys K) tj_N tj_T (M_cw K q) y_Mod_owns b_Mod_owns 4 .boolean 1 22 [.ref (q 0), .int a1, .int a2] s0 rE sE := by
  refine tj_start_i (by decide +kernel) (Nat.le_of_ble_eq_true rfl) (fun Γ C fin => ?_)
  show tj_W Γ (M_cw K q) s0 [(0, .ref (q 0)), (1, .int a1), (2, .int a2)] 0 []
  have L2 : ∀ (y2 y3 : Int32) (k : Int32 → tj_S → Option (Int32 × tj_S)), (∀ (x15 : Int32) (s16 : tj_S), k x15 s16 = some (rE, sE) → tj_W Γ (M_cw K q) s16 [(0, .ref (q 0)), (1, .int y2), (2, .int y3), (3, .int x15)] 45 []) → ∀ (n : Nat) (x1 : Int32) (s4 : tj_S), f_Mod_owns_L2 y2 y3 k n x1 s4 = some (rE, sE) → tj_W Γ (M_cw K q) s4 [(0, .ref (q 0)), (1, .int y2), (2, .int y3), (3, .int x1)] 2 [] := by
    intro y2 y3 k hk n
    induction n with
    | zero => intro x1 s4 h; rw [f_Mod_owns_L2] at h; cases h
    | succ n ih =>
      intro x1 s4 h
      rw [f_Mod_owns_L2] at h
      refine xw_iload_n C d_Mod_owns_2 3 rfl ?_
      refine xw_bipush C d_Mod_owns_3 (v := 6) (by decide) ?_
      refine xw_icmp_ge C d_Mod_owns_5 (tgt := 45) (by decide) (fun hc14 => ?_) (fun hc14 => ?_)
      · replace h := it_t hc14 h
        exact xw_lv [0, 1, 2, 3] rfl (hk _ _ h)
      · replace h := it_f hc14 h
        refine xw_iconst C d_Mod_owns_8 (v := 4) (by decide) ?_
        refine xw_iload_n C d_Mod_owns_9 3 rfl ?_
        refine xw_imul C d_Mod_owns_10 ?_
        refine xw_aload_n C d_Mod_owns_11 0 rfl ?_
        refine xw_get C F_Mod_ok 0 rfl rfl 1 (by decide) T_474 rfl d_Mod_owns_12 ?_
        refine xw_iconst C d_Mod_owns_15 (v := 4) (by decide) ?_
        refine xw_iload_n C d_Mod_owns_16 1 rfl ?_
        refine xw_imul C d_Mod_owns_17 ?_
        obtain ⟨hb5, h⟩ := gd_e h
        refine xw_iald C 2 1 rfl rfl hb5 d_Mod_owns_18 ?_
        refine xw_icmp_ge C d_Mod_owns_19 (tgt := 39) (by decide) (fun hc13 => ?_) (fun hc13 => ?_)
        · replace h := it_t hc13 h
          refine xw_iinc C h (fun v => [(3, .int v), (0, .ref (q 0)), (1, .int y2), (2, .int y3)]) d_Mod_owns_39 3 rfl (by decide) (fun _ => rfl) (fun x6 h => ?_)
          refine xw_goto C d_Mod_owns_42 (tgt := 2) (by decide) ?_
          exact xw_lv [1, 2, 3, 0] rfl (ih _ _ h)
        · replace h := it_f hc13 h
          refine xw_aload_n C d_Mod_owns_22 0 rfl ?_
          refine xw_get C F_Mod_ok 0 rfl rfl 1 (by decide) T_474 rfl d_Mod_owns_23 ?_
          refine xw_aload_n C d_Mod_owns_26 0 rfl ?_
          refine xw_iload_n C d_Mod_owns_27 1 rfl ?_
          refine xw_iload_n C d_Mod_owns_28 3 rfl ?_
          obtain ⟨r9, s8, hc7, h⟩ := bd_e h
          refine xw_callV_i C tj_Tg tj_Ng (n := 2) (As := [.int y2, .int x1]) (rest := [.ref (q 2)]) (c_Mod_cell hc7) T_608 T_605 T_6 T_607 S_36 0 rfl rfl rfl (by decide +kernel) (by decide) rfl rfl (Nat.le_of_ble_eq_true rfl) d_Mod_owns_29 ?_
          obtain ⟨hb10, h⟩ := gd_e h
          refine xw_iald C 2 1 rfl rfl hb10 d_Mod_owns_32 ?_
          refine xw_iload_n C d_Mod_owns_33 2 rfl ?_
          refine xw_icmp_ne C d_Mod_owns_34 (tgt := 39) (by decide) (fun hc12 => ?_) (fun hc12 => ?_)
          · replace h := it_f hc12 h
            refine xw_iinc C h (fun v => [(3, .int v), (0, .ref (q 0)), (1, .int y2), (2, .int y3)]) d_Mod_owns_39 3 rfl (by decide) (fun _ => rfl) (fun x11 h => ?_)
            refine xw_goto C d_Mod_owns_42 (tgt := 2) (by decide) ?_
            exact xw_lv [1, 2, 3, 0] rfl (ih _ _ h)
          · replace h := it_t hc12 h
            refine xw_iconst C d_Mod_owns_37 (v := 1) (by decide) ?_
            exact fin _ _ _ _ h d_Mod_owns_38 rfl
  unfold f_Mod_owns at h
  refine xw_iconst C d_Mod_owns_0 (v := 0) (by decide) ?_
  refine xw_istore_n C d_Mod_owns_1 rfl (by decide) (lv1 := [(3, .int (0 : Int32)), (0, .ref (q 0)), (1, .int a1), (2, .int a2)]) rfl ?_
  refine xw_lv [1, 2, 3, 0] rfl (L2 _ _ _ (fun x17 s18 h => ?_) 100 _ _ h)
  refine xw_iconst C d_Mod_owns_45 (v := 0) (by decide) ?_
  exact fin _ _ _ _ h d_Mod_owns_46 rfl
def f_Mod_sync_L18 (y5 : Int32) (k : Int32 → tj_S → Option (Int32 × tj_S)) : Nat → Int32 → tj_S → Option (Int32 × tj_S)
  | 0, _, _ => none
  | n + 1, x4, s6 =>
    if (s6 0 13) = (0 : Int32) then
      if (s6 0 5) ≤ x4 then
        k x4 s6
      else
        gd (inb x4 16) <|
        bd (f_Mod_owns y5 (s6 5 (Int32.toNatClampNeg x4)) s6) fun r10 s9 =>
        if r10 = (0 : Int32) then
          nm (x4 + Int32.ofInt 1) fun x15 =>
          f_Mod_sync_L18 y5 k n x15 s9
        else
          bd (f_Mod_bring x4 s9) fun r13 s12 =>
          if r13 = (0 : Int32) then
            some ((0 : Int32), s12)
          else
            f_Mod_sync_L18 y5 k n x4 s12
    else
      k x4 s6
def f_Mod_sync (a1 : Int32) (s0 : tj_S) : Option (Int32 × tj_S) :=
  if (s0 0 12) = (0 : Int32) then
    some ((0 : Int32), s0)
  else
    bd (f_Mod_file a1 s0) fun r3 s2 =>
    if r3 = (0 : Int32) then
      some ((0 : Int32), s2)
    else
      f_Mod_sync_L18 a1 (fun x21 s22 =>
        bd (f_Mod_seal s22) fun r25 s24 =>
        if r25 = (-2 : Int32) then
          some ((0 : Int32), s24)
        else
          some ((1 : Int32), s24)) 100 (0 : Int32) s2
set_option maxRecDepth 100000 in
set_option maxHeartbeats 4000000 in
theorem c_Mod_sync {l : Launch} {D : va_G} {K : Nat → ClassId} {q : Nat → Nat} {a1 : Int32} {s0 sE : tj_S} {rE : Int32} (h : f_Mod_sync a1 s0 = some (rE, sE)) : tj_Mi l D tj_cls (M_tys K) tj_N tj_T (M_cw K q) y_Mod_sync b_Mod_sync 3 .boolean 5 110 [.ref (q 0), .int a1] s0 rE sE := by
  refine tj_start_i (by decide +kernel) (Nat.le_of_ble_eq_true rfl) (fun Γ C fin => ?_)
  show tj_W Γ (M_cw K q) s0 [(0, .ref (q 0)), (1, .int a1)] 0 []
  have L18 : ∀ (y5 : Int32) (k : Int32 → tj_S → Option (Int32 × tj_S)), (∀ (x19 : Int32) (s20 : tj_S), k x19 s20 = some (rE, sE) → tj_W Γ (M_cw K q) s20 [(0, .ref (q 0)), (1, .int y5), (2, .int x19)] 63 []) → ∀ (n : Nat) (x4 : Int32) (s6 : tj_S), f_Mod_sync_L18 y5 k n x4 s6 = some (rE, sE) → tj_W Γ (M_cw K q) s6 [(0, .ref (q 0)), (1, .int y5), (2, .int x4)] 18 [] := by
    intro y5 k hk n
    induction n with
    | zero => intro x4 s6 h; rw [f_Mod_sync_L18] at h; cases h
    | succ n ih =>
      intro x4 s6 h
      rw [f_Mod_sync_L18] at h
      refine xw_aload_n C d_Mod_sync_18 0 rfl ?_
      refine xw_get C F_Mod_ok 0 rfl rfl 13 (by decide) T_486 rfl d_Mod_sync_19 ?_
      refine xw_if_ne C d_Mod_sync_22 (tgt := 63) (by decide) (fun hc18 => ?_) (fun hc18 => ?_)
      · replace h := it_f hc18 h
        exact xw_lv [0, 1, 2] rfl (hk _ _ h)
      · replace h := it_t hc18 h
        refine xw_iload_n C d_Mod_sync_25 2 rfl ?_
        refine xw_aload_n C d_Mod_sync_26 0 rfl ?_
        refine xw_get C F_Mod_ok 0 rfl rfl 5 (by decide) T_478 rfl d_Mod_sync_27 ?_
        refine xw_icmp_ge C d_Mod_sync_30 (tgt := 63) (by decide) (fun hc17 => ?_) (fun hc17 => ?_)
        · replace h := it_t hc17 h
          exact xw_lv [0, 1, 2] rfl (hk _ _ h)
        · replace h := it_f hc17 h
          refine xw_aload_n C d_Mod_sync_33 0 rfl ?_
          refine xw_iload_n C d_Mod_sync_34 1 rfl ?_
          refine xw_aload_n C d_Mod_sync_35 0 rfl ?_
          refine xw_get C F_Mod_ok 0 rfl rfl 4 (by decide) T_477 rfl d_Mod_sync_36 ?_
          refine xw_iload_n C d_Mod_sync_39 2 rfl ?_
          obtain ⟨hb7, h⟩ := gd_e h
          refine xw_iald C 5 4 rfl rfl hb7 d_Mod_sync_40 ?_
          obtain ⟨r10, s9, hc8, h⟩ := bd_e h
          refine xw_callV_i C tj_Tg tj_Ng (n := 2) (As := [.int y5, .int (s6 5 (Int32.toNatClampNeg x4))]) (rest := []) (c_Mod_owns hc8) T_648 T_645 T_6 T_647 S_40 0 rfl rfl rfl (by decide +kernel) (by decide) rfl rfl (Nat.le_of_ble_eq_true rfl) d_Mod_sync_41 ?_
          refine xw_if_ne C d_Mod_sync_44 (tgt := 53) (by decide) (fun hc16 => ?_) (fun hc16 => ?_)
          · replace h := it_f hc16 h
            refine xw_aload_n C d_Mod_sync_53 0 rfl ?_
            refine xw_iload_n C d_Mod_sync_54 2 rfl ?_
            obtain ⟨r13, s12, hc11, h⟩ := bd_e h
            refine xw_callV_i C tj_Tg tj_Ng (n := 1) (As := [.int x4]) (rest := []) (c_Mod_bring hc11) T_560 T_557 T_6 T_559 S_24 0 rfl rfl rfl (by decide +kernel) (by decide) rfl rfl (Nat.le_of_ble_eq_true rfl) d_Mod_sync_55 ?_
            refine xw_if_ne C d_Mod_sync_58 (tgt := 18) (by decide) (fun hc14 => ?_) (fun hc14 => ?_)
            · replace h := it_f hc14 h
              exact xw_lv [0, 1, 2] rfl (ih _ _ h)
            · replace h := it_t hc14 h
              refine xw_iconst C d_Mod_sync_61 (v := 0) (by decide) ?_
              exact fin _ _ _ _ h d_Mod_sync_62 rfl
          · replace h := it_t hc16 h
            refine xw_iinc C h (fun v => [(2, .int v), (0, .ref (q 0)), (1, .int y5)]) d_Mod_sync_47 2 rfl (by decide) (fun _ => rfl) (fun x15 h => ?_)
            refine xw_goto C d_Mod_sync_50 (tgt := 18) (by decide) ?_
            exact xw_lv [1, 2, 0] rfl (ih _ _ h)
  unfold f_Mod_sync at h
  refine xw_aload_n C d_Mod_sync_0 0 rfl ?_
  refine xw_get C F_Mod_ok 0 rfl rfl 12 (by decide) T_485 rfl d_Mod_sync_1 ?_
  refine xw_if_eq C d_Mod_sync_4 (tgt := 14) (by decide) (fun hc28 => ?_) (fun hc28 => ?_)
  · replace h := it_t hc28 h
    refine xw_iconst C d_Mod_sync_14 (v := 0) (by decide) ?_
    exact fin _ _ _ _ h d_Mod_sync_15 rfl
  · replace h := it_f hc28 h
    refine xw_iload_n C d_Mod_sync_7 1 rfl ?_
    obtain ⟨r3, s2, hc1, h⟩ := bd_e h
    refine xw_callS_i C tj_Tg tj_Ng (n := 1) (As := [.int a1]) (rest := []) (c_Mod_file hc1) T_532 T_530 T_6 T_531 (by decide +kernel) (by decide) rfl rfl (Nat.le_of_ble_eq_true rfl) d_Mod_sync_8 ?_
    refine xw_if_ne C d_Mod_sync_11 (tgt := 16) (by decide) (fun hc27 => ?_) (fun hc27 => ?_)
    · replace h := it_f hc27 h
      refine xw_iconst C d_Mod_sync_16 (v := 0) (by decide) ?_
      refine xw_istore_n C d_Mod_sync_17 rfl (by decide) (lv1 := [(2, .int (0 : Int32)), (0, .ref (q 0)), (1, .int a1)]) rfl ?_
      refine xw_lv [1, 2, 0] rfl (L18 _ _ (fun x21 s22 h => ?_) 100 _ _ h)
      refine xw_aload_n C d_Mod_sync_63 0 rfl ?_
      obtain ⟨r25, s24, hc23, h⟩ := bd_e h
      refine xw_callV_i C tj_Tg tj_Ng (n := 0) (As := []) (rest := []) (c_Mod_seal hc23) T_556 T_553 T_6 T_555 S_23 0 rfl rfl rfl (by decide +kernel) (by decide) rfl rfl (Nat.le_of_ble_eq_true rfl) d_Mod_sync_64 ?_
      refine xw_bipush C d_Mod_sync_67 (v := -2) (by decide) ?_
      refine xw_icmp_eq C d_Mod_sync_69 (tgt := 76) (by decide) (fun hc26 => ?_) (fun hc26 => ?_)
      · replace h := it_t hc26 h
        refine xw_iconst C d_Mod_sync_76 (v := 0) (by decide) ?_
        exact fin _ _ _ _ h d_Mod_sync_77 rfl
      · replace h := it_f hc26 h
        refine xw_iconst C d_Mod_sync_72 (v := 1) (by decide) ?_
        refine xw_goto C d_Mod_sync_73 (tgt := 77) (by decide) ?_
        exact fin _ _ _ _ h d_Mod_sync_77 rfl
    · replace h := it_t hc27 h
      refine xw_iconst C d_Mod_sync_14 (v := 0) (by decide) ?_
      exact fin _ _ _ _ h d_Mod_sync_15 rfl
def f_Mod_flush_L16 (y2 : Int32) (k : Int32 → tj_S → Option (Int32 × tj_S)) : Nat → Int32 → tj_S → Option (Int32 × tj_S)
  | 0, _, _ => none
  | n + 1, x1, s3 =>
    if y2 ≤ x1 then
      k x1 s3
    else
      if (s3 0 5) ≤ (0 : Int32) then
        k x1 s3
      else
        bd (f_Mod_bring (0 : Int32) s3) fun r6 s5 =>
        if r6 = (0 : Int32) then
          some ((-2 : Int32), s5)
        else
          nm (x1 + Int32.ofInt 1) fun x7 =>
          f_Mod_flush_L16 y2 k n x7 s5
def f_Mod_flush (a1 : Int32) (s0 : tj_S) : Option (Int32 × tj_S) :=
  if (s0 0 12) = (0 : Int32) then
    some ((-1 : Int32), s0)
  else
    if (1 : Int32) ≤ a1 then
      f_Mod_flush_L16 a1 (fun x13 s14 =>
        some (x13, s14)) 100 (0 : Int32) s0
    else
      some ((-1 : Int32), s0)
set_option maxRecDepth 100000 in
set_option maxHeartbeats 4000000 in
theorem c_Mod_flush {l : Launch} {D : va_G} {K : Nat → ClassId} {q : Nat → Nat} {a1 : Int32} {s0 sE : tj_S} {rE : Int32} (h : f_Mod_flush a1 s0 = some (rE, sE)) : tj_Mi l D tj_cls (M_tys K) tj_N tj_T (M_cw K q) y_Mod_flush b_Mod_flush 3 .int 3 63 [.ref (q 0), .int a1] s0 rE sE := by
  refine tj_start_i (by decide +kernel) (Nat.le_of_ble_eq_true rfl) (fun Γ C fin => ?_)
  show tj_W Γ (M_cw K q) s0 [(0, .ref (q 0)), (1, .int a1)] 0 []
  have L16 : ∀ (y2 : Int32) (k : Int32 → tj_S → Option (Int32 × tj_S)), (∀ (x11 : Int32) (s12 : tj_S), k x11 s12 = some (rE, sE) → tj_W Γ (M_cw K q) s12 [(0, .ref (q 0)), (1, .int y2), (2, .int x11)] 45 []) → ∀ (n : Nat) (x1 : Int32) (s3 : tj_S), f_Mod_flush_L16 y2 k n x1 s3 = some (rE, sE) → tj_W Γ (M_cw K q) s3 [(0, .ref (q 0)), (1, .int y2), (2, .int x1)] 16 [] := by
    intro y2 k hk n
    induction n with
    | zero => intro x1 s3 h; rw [f_Mod_flush_L16] at h; cases h
    | succ n ih =>
      intro x1 s3 h
      rw [f_Mod_flush_L16] at h
      refine xw_iload_n C d_Mod_flush_16 2 rfl ?_
      refine xw_iload_n C d_Mod_flush_17 1 rfl ?_
      refine xw_icmp_ge C d_Mod_flush_18 (tgt := 45) (by decide) (fun hc10 => ?_) (fun hc10 => ?_)
      · replace h := it_t hc10 h
        exact xw_lv [0, 1, 2] rfl (hk _ _ h)
      · replace h := it_f hc10 h
        refine xw_aload_n C d_Mod_flush_21 0 rfl ?_
        refine xw_get C F_Mod_ok 0 rfl rfl 5 (by decide) T_478 rfl d_Mod_flush_22 ?_
        refine xw_if_le C d_Mod_flush_25 (tgt := 45) (by decide) (fun hc9 => ?_) (fun hc9 => ?_)
        · replace h := it_t hc9 h
          exact xw_lv [0, 1, 2] rfl (hk _ _ h)
        · replace h := it_f hc9 h
          refine xw_aload_n C d_Mod_flush_28 0 rfl ?_
          refine xw_iconst C d_Mod_flush_29 (v := 0) (by decide) ?_
          obtain ⟨r6, s5, hc4, h⟩ := bd_e h
          refine xw_callV_i C tj_Tg tj_Ng (n := 1) (As := [.int (0 : Int32)]) (rest := []) (c_Mod_bring hc4) T_560 T_557 T_6 T_559 S_24 0 rfl rfl rfl (by decide +kernel) (by decide) rfl rfl (Nat.le_of_ble_eq_true rfl) d_Mod_flush_30 ?_
          refine xw_if_ne C d_Mod_flush_33 (tgt := 39) (by decide) (fun hc8 => ?_) (fun hc8 => ?_)
          · replace h := it_f hc8 h
            refine xw_iinc C h (fun v => [(2, .int v), (0, .ref (q 0)), (1, .int y2)]) d_Mod_flush_39 2 rfl (by decide) (fun _ => rfl) (fun x7 h => ?_)
            refine xw_goto C d_Mod_flush_42 (tgt := 16) (by decide) ?_
            exact xw_lv [1, 2, 0] rfl (ih _ _ h)
          · replace h := it_t hc8 h
            refine xw_bipush C d_Mod_flush_36 (v := -2) (by decide) ?_
            exact fin _ _ _ _ h d_Mod_flush_38 rfl
  unfold f_Mod_flush at h
  refine xw_aload_n C d_Mod_flush_0 0 rfl ?_
  refine xw_get C F_Mod_ok 0 rfl rfl 12 (by decide) T_485 rfl d_Mod_flush_1 ?_
  refine xw_if_eq C d_Mod_flush_4 (tgt := 12) (by decide) (fun hc16 => ?_) (fun hc16 => ?_)
  · replace h := it_t hc16 h
    refine xw_iconst C d_Mod_flush_12 (v := -1) (by decide) ?_
    exact fin _ _ _ _ h d_Mod_flush_13 rfl
  · replace h := it_f hc16 h
    refine xw_iload_n C d_Mod_flush_7 1 rfl ?_
    refine xw_iconst C d_Mod_flush_8 (v := 1) (by decide) ?_
    refine xw_icmp_ge C d_Mod_flush_9 (tgt := 14) (by decide) (fun hc15 => ?_) (fun hc15 => ?_)
    · replace h := it_t hc15 h
      refine xw_iconst C d_Mod_flush_14 (v := 0) (by decide) ?_
      refine xw_istore_n C d_Mod_flush_15 rfl (by decide) (lv1 := [(2, .int (0 : Int32)), (0, .ref (q 0)), (1, .int a1)]) rfl ?_
      refine xw_lv [1, 2, 0] rfl (L16 _ _ (fun x13 s14 h => ?_) 100 _ _ h)
      refine xw_iload_n C d_Mod_flush_45 2 rfl ?_
      exact fin _ _ _ _ h d_Mod_flush_46 rfl
    · replace h := it_f hc15 h
      refine xw_iconst C d_Mod_flush_12 (v := -1) (by decide) ?_
      exact fin _ _ _ _ h d_Mod_flush_13 rfl
def f_Mod_checkpoint (a1 : Int32) (s0 : tj_S) : Option (Int32 × tj_S) :=
  if (s0 0 12) = (0 : Int32) then
    some ((-1 : Int32), s0)
  else
    if (1 : Int32) ≤ a1 then
      if (s0 0 10) ≤ a1 then
        nm ((s0 0 10)) fun x1 =>
        nm ((s0 0 15)) fun x2 =>
        if x1 ≤ (0 : Int32) then
          some (((s0 0 15) - x2), s0)
        else
          bd (f_Mod_retire x1 s0) fun r5 s4 =>
          if r5 = (0 : Int32) then
            some ((-2 : Int32), s4)
          else
            some (((s4 0 15) - x2), s4)
      else
        nm ((s0 0 15)) fun x8 =>
        if a1 ≤ (0 : Int32) then
          some (((s0 0 15) - x8), s0)
        else
          bd (f_Mod_retire a1 s0) fun r11 s10 =>
          if r11 = (0 : Int32) then
            some ((-2 : Int32), s10)
          else
            some (((s10 0 15) - x8), s10)
    else
      some ((-1 : Int32), s0)
set_option maxRecDepth 100000 in
set_option maxHeartbeats 4000000 in
theorem c_Mod_checkpoint {l : Launch} {D : va_G} {K : Nat → ClassId} {q : Nat → Nat} {a1 : Int32} {s0 sE : tj_S} {rE : Int32} (h : f_Mod_checkpoint a1 s0 = some (rE, sE)) : tj_Mi l D tj_cls (M_tys K) tj_N tj_T (M_cw K q) y_Mod_checkpoint b_Mod_checkpoint 4 .int 4 86 [.ref (q 0), .int a1] s0 rE sE := by
  refine tj_start_i (by decide +kernel) (Nat.le_of_ble_eq_true rfl) (fun Γ C fin => ?_)
  show tj_W Γ (M_cw K q) s0 [(0, .ref (q 0)), (1, .int a1)] 0 []
  unfold f_Mod_checkpoint at h
  refine xw_aload_n C d_Mod_checkpoint_0 0 rfl ?_
  refine xw_get C F_Mod_ok 0 rfl rfl 12 (by decide) T_485 rfl d_Mod_checkpoint_1 ?_
  refine xw_if_eq C d_Mod_checkpoint_4 (tgt := 12) (by decide) (fun hc16 => ?_) (fun hc16 => ?_)
  · replace h := it_t hc16 h
    refine xw_iconst C d_Mod_checkpoint_12 (v := -1) (by decide) ?_
    exact fin _ _ _ _ h d_Mod_checkpoint_13 rfl
  · replace h := it_f hc16 h
    refine xw_iload_n C d_Mod_checkpoint_7 1 rfl ?_
    refine xw_iconst C d_Mod_checkpoint_8 (v := 1) (by decide) ?_
    refine xw_icmp_ge C d_Mod_checkpoint_9 (tgt := 14) (by decide) (fun hc15 => ?_) (fun hc15 => ?_)
    · replace h := it_t hc15 h
      refine xw_iload_n C d_Mod_checkpoint_14 1 rfl ?_
      refine xw_aload_n C d_Mod_checkpoint_15 0 rfl ?_
      refine xw_get C F_Mod_ok 0 rfl rfl 10 (by decide) T_483 rfl d_Mod_checkpoint_16 ?_
      refine xw_icmp_ge C d_Mod_checkpoint_19 (tgt := 26) (by decide) (fun hc14 => ?_) (fun hc14 => ?_)
      · replace h := it_t hc14 h
        refine xw_aload_n C d_Mod_checkpoint_26 0 rfl ?_
        refine xw_get C F_Mod_ok 0 rfl rfl 10 (by decide) T_483 rfl d_Mod_checkpoint_27 ?_
        refine xw_ni h (fun x1 h => ?_)
        refine xw_istore_n C d_Mod_checkpoint_30 rfl (by decide) (lv1 := [(2, .int x1), (0, .ref (q 0)), (1, .int a1)]) rfl ?_
        refine xw_aload_n C d_Mod_checkpoint_31 1 rfl ?_
        refine xw_get C F_Mod_ok 0 rfl rfl 15 (by decide) T_488 rfl d_Mod_checkpoint_32 ?_
        refine xw_ni h (fun x2 h => ?_)
        refine xw_istore_n C d_Mod_checkpoint_35 rfl (by decide) (lv1 := [(3, .int x2), (2, .int x1), (0, .ref (q 0)), (1, .int a1)]) rfl ?_
        refine xw_iload_n C d_Mod_checkpoint_36 1 rfl ?_
        refine xw_if_le C d_Mod_checkpoint_37 (tgt := 51) (by decide) (fun hc7 => ?_) (fun hc7 => ?_)
        · replace h := it_t hc7 h
          refine xw_aload_n C d_Mod_checkpoint_51 2 rfl ?_
          refine xw_get C F_Mod_ok 0 rfl rfl 15 (by decide) T_488 rfl d_Mod_checkpoint_52 ?_
          refine xw_iload_n C d_Mod_checkpoint_55 0 rfl ?_
          refine xw_isub C d_Mod_checkpoint_56 ?_
          exact fin _ _ _ _ h d_Mod_checkpoint_57 rfl
        · replace h := it_f hc7 h
          refine xw_aload_n C d_Mod_checkpoint_40 2 rfl ?_
          refine xw_iload_n C d_Mod_checkpoint_41 1 rfl ?_
          obtain ⟨r5, s4, hc3, h⟩ := bd_e h
          refine xw_callV_i C tj_Tg tj_Ng (n := 1) (As := [.int x1]) (rest := []) (c_Mod_retire hc3) T_580 T_577 T_6 T_579 S_29 0 rfl rfl rfl (by decide +kernel) (by decide) rfl rfl (Nat.le_of_ble_eq_true rfl) d_Mod_checkpoint_42 ?_
          refine xw_if_ne C d_Mod_checkpoint_45 (tgt := 51) (by decide) (fun hc6 => ?_) (fun hc6 => ?_)
          · replace h := it_f hc6 h
            refine xw_aload_n C d_Mod_checkpoint_51 2 rfl ?_
            refine xw_get C F_Mod_ok 0 rfl rfl 15 (by decide) T_488 rfl d_Mod_checkpoint_52 ?_
            refine xw_iload_n C d_Mod_checkpoint_55 0 rfl ?_
            refine xw_isub C d_Mod_checkpoint_56 ?_
            exact fin _ _ _ _ h d_Mod_checkpoint_57 rfl
          · replace h := it_t hc6 h
            refine xw_bipush C d_Mod_checkpoint_48 (v := -2) (by decide) ?_
            exact fin _ _ _ _ h d_Mod_checkpoint_50 rfl
      · replace h := it_f hc14 h
        refine xw_iload_n C d_Mod_checkpoint_22 1 rfl ?_
        refine xw_goto C d_Mod_checkpoint_23 (tgt := 30) (by decide) ?_
        refine xw_istore_n C d_Mod_checkpoint_30 rfl (by decide) (lv1 := [(2, .int a1), (0, .ref (q 0)), (1, .int a1)]) rfl ?_
        refine xw_aload_n C d_Mod_checkpoint_31 1 rfl ?_
        refine xw_get C F_Mod_ok 0 rfl rfl 15 (by decide) T_488 rfl d_Mod_checkpoint_32 ?_
        refine xw_ni h (fun x8 h => ?_)
        refine xw_istore_n C d_Mod_checkpoint_35 rfl (by decide) (lv1 := [(3, .int x8), (2, .int a1), (0, .ref (q 0)), (1, .int a1)]) rfl ?_
        refine xw_iload_n C d_Mod_checkpoint_36 1 rfl ?_
        refine xw_if_le C d_Mod_checkpoint_37 (tgt := 51) (by decide) (fun hc13 => ?_) (fun hc13 => ?_)
        · replace h := it_t hc13 h
          refine xw_aload_n C d_Mod_checkpoint_51 2 rfl ?_
          refine xw_get C F_Mod_ok 0 rfl rfl 15 (by decide) T_488 rfl d_Mod_checkpoint_52 ?_
          refine xw_iload_n C d_Mod_checkpoint_55 0 rfl ?_
          refine xw_isub C d_Mod_checkpoint_56 ?_
          exact fin _ _ _ _ h d_Mod_checkpoint_57 rfl
        · replace h := it_f hc13 h
          refine xw_aload_n C d_Mod_checkpoint_40 2 rfl ?_
          refine xw_iload_n C d_Mod_checkpoint_41 1 rfl ?_
          obtain ⟨r11, s10, hc9, h⟩ := bd_e h
          refine xw_callV_i C tj_Tg tj_Ng (n := 1) (As := [.int a1]) (rest := []) (c_Mod_retire hc9) T_580 T_577 T_6 T_579 S_29 0 rfl rfl rfl (by decide +kernel) (by decide) rfl rfl (Nat.le_of_ble_eq_true rfl) d_Mod_checkpoint_42 ?_
          refine xw_if_ne C d_Mod_checkpoint_45 (tgt := 51) (by decide) (fun hc12 => ?_) (fun hc12 => ?_)
          · replace h := it_f hc12 h
            refine xw_aload_n C d_Mod_checkpoint_51 2 rfl ?_
            refine xw_get C F_Mod_ok 0 rfl rfl 15 (by decide) T_488 rfl d_Mod_checkpoint_52 ?_
            refine xw_iload_n C d_Mod_checkpoint_55 0 rfl ?_
            refine xw_isub C d_Mod_checkpoint_56 ?_
            exact fin _ _ _ _ h d_Mod_checkpoint_57 rfl
          · replace h := it_t hc12 h
            refine xw_bipush C d_Mod_checkpoint_48 (v := -2) (by decide) ?_
            exact fin _ _ _ _ h d_Mod_checkpoint_50 rfl
    · replace h := it_f hc15 h
      refine xw_iconst C d_Mod_checkpoint_12 (v := -1) (by decide) ?_
      exact fin _ _ _ _ h d_Mod_checkpoint_13 rfl
def f_Mod_fuse (a1 : Int32) (s0 : tj_S) : Option (tj_S) :=
  if (0 : Int32) ≤ a1 then
    nm (up2 s0 0 14 a1) fun s1 =>
    some s1
  else
    nm (up2 s0 0 14 (-1 : Int32)) fun s2 =>
    some s2
set_option maxRecDepth 100000 in
set_option maxHeartbeats 4000000 in
theorem c_Mod_fuse {l : Launch} {D : va_G} {K : Nat → ClassId} {q : Nat → Nat} {a1 : Int32} {s0 sE : tj_S} (h : f_Mod_fuse a1 s0 = some sE) : tj_Mv l D tj_cls (M_tys K) tj_N tj_T (M_cw K q) y_Mod_fuse b_Mod_fuse 2 0 0 [.ref (q 0), .int a1] s0 sE := by
  refine tj_start_v (by decide +kernel) (Nat.le_of_ble_eq_true rfl) (fun Γ C fin => ?_)
  show tj_W Γ (M_cw K q) s0 [(0, .ref (q 0)), (1, .int a1)] 0 []
  unfold f_Mod_fuse at h
  refine xw_aload_n C d_Mod_fuse_0 0 rfl ?_
  refine xw_iload_n C d_Mod_fuse_1 1 rfl ?_
  refine xw_if_ge C d_Mod_fuse_2 (tgt := 9) (by decide) (fun hc3 => ?_) (fun hc3 => ?_)
  · replace h := it_t hc3 h
    refine xw_iload_n C d_Mod_fuse_9 1 rfl ?_
    refine xw_put C F_Mod_ok 0 rfl rfl 14 (by decide) T_487 rfl rfl rfl (Nat.le_of_ble_eq_true rfl) d_Mod_fuse_10 (σ1 := (up2 s0 0 14 a1)) rfl ?_
    refine xw_ns h (fun s1 h => ?_)
    exact fin _ _ _ h d_Mod_fuse_13
  · replace h := it_f hc3 h
    refine xw_iconst C d_Mod_fuse_5 (v := -1) (by decide) ?_
    refine xw_goto C d_Mod_fuse_6 (tgt := 10) (by decide) ?_
    refine xw_put C F_Mod_ok 0 rfl rfl 14 (by decide) T_487 rfl rfl rfl (Nat.le_of_ble_eq_true rfl) d_Mod_fuse_10 (σ1 := (up2 s0 0 14 (-1 : Int32))) rfl ?_
    refine xw_ns h (fun s2 h => ?_)
    exact fin _ _ _ h d_Mod_fuse_13
def f_Mod_crash (s0 : tj_S) : Option (Int32 × tj_S) :=
  nm ((s0 0 12)) fun x1 =>
  if x1 = (0 : Int32) then
    gd (isb x1) <|
    some (x1, s0)
  else
    bv (f_Mod_fail s0) fun s4 =>
    gd (isb x1) <|
    some (x1, s4)
set_option maxRecDepth 100000 in
set_option maxHeartbeats 4000000 in
theorem c_Mod_crash {l : Launch} {D : va_G} {K : Nat → ClassId} {q : Nat → Nat} {s0 sE : tj_S} {rE : Int32} (h : f_Mod_crash s0 = some (rE, sE)) : tj_Mi l D tj_cls (M_tys K) tj_N tj_T (M_cw K q) y_Mod_crash b_Mod_crash 2 .boolean 1 20 [.ref (q 0)] s0 rE sE := by
  refine tj_start_i (by decide +kernel) (Nat.le_of_ble_eq_true rfl) (fun Γ C fin => ?_)
  show tj_W Γ (M_cw K q) s0 [(0, .ref (q 0))] 0 []
  unfold f_Mod_crash at h
  refine xw_aload_n C d_Mod_crash_0 0 rfl ?_
  refine xw_get C F_Mod_ok 0 rfl rfl 12 (by decide) T_485 rfl d_Mod_crash_1 ?_
  refine xw_ni h (fun x1 h => ?_)
  refine xw_istore_n C d_Mod_crash_4 rfl (by decide) (lv1 := [(1, .int x1), (0, .ref (q 0))]) rfl ?_
  refine xw_iload_n C d_Mod_crash_5 0 rfl ?_
  refine xw_if_eq C d_Mod_crash_6 (tgt := 13) (by decide) (fun hc6 => ?_) (fun hc6 => ?_)
  · replace h := it_t hc6 h
    refine xw_iload_n C d_Mod_crash_13 0 rfl ?_
    obtain ⟨hb2, h⟩ := gd_e h
    exact fin _ _ _ _ h d_Mod_crash_14 (isb_n hb2)
  · replace h := it_f hc6 h
    refine xw_aload_n C d_Mod_crash_9 1 rfl ?_
    obtain ⟨s4, hc3, h⟩ := bv_e h
    refine xw_callV_v C tj_Tg tj_Ng (n := 0) (As := []) (rest := []) (c_Mod_fail hc3) T_568 T_565 T_6 T_567 S_26 0 rfl rfl rfl (by decide +kernel) (by decide) rfl rfl (Nat.le_of_ble_eq_true rfl) d_Mod_crash_10 ?_
    refine xw_iload_n C d_Mod_crash_13 0 rfl ?_
    obtain ⟨hb5, h⟩ := gd_e h
    exact fin _ _ _ _ h d_Mod_crash_14 (isb_n hb5)
def f_Mod_mount_L20 (y2 : Int32) (k : Int32 → tj_S → Option (Int32 × tj_S)) : Nat → Int32 → tj_S → Option (Int32 × tj_S)
  | 0, _, _ => none
  | n + 1, x1, s3 =>
    if (s3 0 10) ≤ x1 then
      k x1 s3
    else
      bd (f_Mod_replay x1 (0 : Int32) s3) fun r6 s5 =>
      if r6 = (0 : Int32) then
        some ((-2 : Int32), s5)
      else
        nm (x1 + Int32.ofInt 1) fun x7 =>
        f_Mod_mount_L20 y2 k n x7 s5
def f_Mod_mount_L90 (y20 y21 : Int32) (k : Int32 → tj_S → Option (Int32 × tj_S)) : Nat → Int32 → tj_S → Option (Int32 × tj_S)
  | 0, _, _ => none
  | n + 1, x19, s22 =>
    if (92 : Int32) ≤ x19 then
      k x19 s22
    else
      gd (inb x19 92) <|
      gd (inb x19 92) <|
      nm (up2 s22 2 (Int32.toNatClampNeg x19) (s22 1 (Int32.toNatClampNeg x19))) fun s25 =>
      nm (x19 + Int32.ofInt 1) fun x26 =>
      f_Mod_mount_L90 y20 y21 k n x26 s25
def f_Mod_mount_L116 (y33 y34 : Int32) (k : Int32 → tj_S → Option (Int32 × tj_S)) : Nat → Int32 → tj_S → Option (Int32 × tj_S)
  | 0, _, _ => none
  | n + 1, x32, s35 =>
    if (23 : Int32) ≤ x32 then
      k x32 s35
    else
      gd (inb x32 23) <|
      nm (up2 s35 3 (Int32.toNatClampNeg x32) (vp_nar .boolean (0 : Int32))) fun s37 =>
      gd (inb x32 23) <|
      nm (up2 s37 4 (Int32.toNatClampNeg x32) (vp_nar .boolean (0 : Int32))) fun s39 =>
      nm (x32 + Int32.ofInt 1) fun x40 =>
      f_Mod_mount_L116 y33 y34 k n x40 s39
def f_Mod_mount (a1 : Int32) (s0 : tj_S) : Option (Int32 × tj_S) :=
  if (s0 0 12) = (0 : Int32) then
    if a1 < (0 : Int32) then
      some ((-1 : Int32), s0)
    else
      if a1 ≤ (2 : Int32) then
        f_Mod_mount_L20 a1 (fun x12 s13 =>
          if (s13 0 10) ≤ (0 : Int32) then
            nm ((s13 0 10)) fun x14 =>
            nm (up2 s13 0 10 (0 : Int32)) fun s15 =>
            nm (up2 s15 0 12 (1 : Int32)) fun s16 =>
            nm (up2 s16 0 13 a1) fun s17 =>
            nm (up2 s17 0 5 (0 : Int32)) fun s18 =>
            f_Mod_mount_L90 a1 x14 (fun x30 s31 =>
              f_Mod_mount_L116 a1 x14 (fun x44 s45 =>
                gd (inb (24 : Int32) 92) <|
                nm (up2 s45 0 16 (s45 2 (Int32.toNatClampNeg (24 : Int32)))) fun s47 =>
                some (x14, s47)) 100 (0 : Int32) s31) 100 (0 : Int32) s18
          else
            bd (f_Mod_spend s13) fun r50 s49 =>
            if r50 = (0 : Int32) then
              some ((-2 : Int32), s49)
            else
              nm ((s49 0 10)) fun x51 =>
              nm (up2 s49 0 10 (0 : Int32)) fun s52 =>
              nm (up2 s52 0 12 (1 : Int32)) fun s53 =>
              nm (up2 s53 0 13 a1) fun s54 =>
              nm (up2 s54 0 5 (0 : Int32)) fun s55 =>
              f_Mod_mount_L90 a1 x51 (fun x56 s57 =>
                f_Mod_mount_L116 a1 x51 (fun x58 s59 =>
                  gd (inb (24 : Int32) 92) <|
                  nm (up2 s59 0 16 (s59 2 (Int32.toNatClampNeg (24 : Int32)))) fun s61 =>
                  some (x51, s61)) 100 (0 : Int32) s57) 100 (0 : Int32) s55) 100 (0 : Int32) s0
      else
        some ((-1 : Int32), s0)
  else
    some ((-1 : Int32), s0)
set_option maxRecDepth 100000 in
set_option maxHeartbeats 4000000 in
theorem c_Mod_mount {l : Launch} {D : va_G} {K : Nat → ClassId} {q : Nat → Nat} {a1 : Int32} {s0 sE : tj_S} {rE : Int32} (h : f_Mod_mount a1 s0 = some (rE, sE)) : tj_Mi l D tj_cls (M_tys K) tj_N tj_T (M_cw K q) y_Mod_mount b_Mod_mount 4 .int 3 64 [.ref (q 0), .int a1] s0 rE sE := by
  refine tj_start_i (by decide +kernel) (Nat.le_of_ble_eq_true rfl) (fun Γ C fin => ?_)
  show tj_W Γ (M_cw K q) s0 [(0, .ref (q 0)), (1, .int a1)] 0 []
  have L20 : ∀ (y2 : Int32) (k : Int32 → tj_S → Option (Int32 × tj_S)), (∀ (x10 : Int32) (s11 : tj_S), k x10 s11 = some (rE, sE) → tj_W Γ (M_cw K q) s11 [(0, .ref (q 0)), (1, .int y2), (2, .int x10)] 46 []) → ∀ (n : Nat) (x1 : Int32) (s3 : tj_S), f_Mod_mount_L20 y2 k n x1 s3 = some (rE, sE) → tj_W Γ (M_cw K q) s3 [(0, .ref (q 0)), (1, .int y2), (2, .int x1)] 20 [] := by
    intro y2 k hk n
    induction n with
    | zero => intro x1 s3 h; rw [f_Mod_mount_L20] at h; cases h
    | succ n ih =>
      intro x1 s3 h
      rw [f_Mod_mount_L20] at h
      refine xw_iload_n C d_Mod_mount_20 2 rfl ?_
      refine xw_aload_n C d_Mod_mount_21 0 rfl ?_
      refine xw_get C F_Mod_ok 0 rfl rfl 10 (by decide) T_483 rfl d_Mod_mount_22 ?_
      refine xw_icmp_ge C d_Mod_mount_25 (tgt := 46) (by decide) (fun hc9 => ?_) (fun hc9 => ?_)
      · replace h := it_t hc9 h
        exact xw_lv [0, 1, 2] rfl (hk _ _ h)
      · replace h := it_f hc9 h
        refine xw_aload_n C d_Mod_mount_28 0 rfl ?_
        refine xw_iload_n C d_Mod_mount_29 2 rfl ?_
        refine xw_iconst C d_Mod_mount_30 (v := 0) (by decide) ?_
        obtain ⟨r6, s5, hc4, h⟩ := bd_e h
        refine xw_callV_i C tj_Tg tj_Ng (n := 2) (As := [.int x1, .int (0 : Int32)]) (rest := []) (c_Mod_replay hc4) T_584 T_581 T_6 T_583 S_30 0 rfl rfl rfl (by decide +kernel) (by decide) rfl rfl (Nat.le_of_ble_eq_true rfl) d_Mod_mount_31 ?_
        refine xw_if_ne C d_Mod_mount_34 (tgt := 40) (by decide) (fun hc8 => ?_) (fun hc8 => ?_)
        · replace h := it_f hc8 h
          refine xw_iinc C h (fun v => [(2, .int v), (0, .ref (q 0)), (1, .int y2)]) d_Mod_mount_40 2 rfl (by decide) (fun _ => rfl) (fun x7 h => ?_)
          refine xw_goto C d_Mod_mount_43 (tgt := 20) (by decide) ?_
          exact xw_lv [1, 2, 0] rfl (ih _ _ h)
        · replace h := it_t hc8 h
          refine xw_bipush C d_Mod_mount_37 (v := -2) (by decide) ?_
          exact fin _ _ _ _ h d_Mod_mount_39 rfl
  have L90 : ∀ (y20 y21 : Int32) (k : Int32 → tj_S → Option (Int32 × tj_S)), (∀ (x28 : Int32) (s29 : tj_S), k x28 s29 = some (rE, sE) → tj_W Γ (M_cw K q) s29 [(0, .ref (q 0)), (1, .int y20), (2, .int y21), (3, .int x28)] 114 []) → ∀ (n : Nat) (x19 : Int32) (s22 : tj_S), f_Mod_mount_L90 y20 y21 k n x19 s22 = some (rE, sE) → tj_W Γ (M_cw K q) s22 [(0, .ref (q 0)), (1, .int y20), (2, .int y21), (3, .int x19)] 90 [] := by
    intro y20 y21 k hk n
    induction n with
    | zero => intro x19 s22 h; rw [f_Mod_mount_L90] at h; cases h
    | succ n ih =>
      intro x19 s22 h
      rw [f_Mod_mount_L90] at h
      refine xw_iload_n C d_Mod_mount_90 3 rfl ?_
      refine xw_bipush C d_Mod_mount_91 (v := 92) (by decide) ?_
      refine xw_icmp_ge C d_Mod_mount_93 (tgt := 114) (by decide) (fun hc27 => ?_) (fun hc27 => ?_)
      · replace h := it_t hc27 h
        exact xw_lv [0, 1, 2, 3] rfl (hk _ _ h)
      · replace h := it_f hc27 h
        refine xw_aload_n C d_Mod_mount_96 0 rfl ?_
        refine xw_get C F_Mod_ok 0 rfl rfl 1 (by decide) T_474 rfl d_Mod_mount_97 ?_
        refine xw_iload_n C d_Mod_mount_100 3 rfl ?_
        refine xw_aload_n C d_Mod_mount_101 0 rfl ?_
        refine xw_get C F_Mod_ok 0 rfl rfl 0 (by decide) T_473 rfl d_Mod_mount_102 ?_
        refine xw_iload_n C d_Mod_mount_105 3 rfl ?_
        obtain ⟨hb23, h⟩ := gd_e h
        refine xw_iald C 1 0 rfl rfl hb23 d_Mod_mount_106 ?_
        obtain ⟨hb24, h⟩ := gd_e h
        refine xw_iast C 2 1 rfl rfl hb24 d_Mod_mount_107 (σ1 := (up2 s22 2 (Int32.toNatClampNeg x19) (s22 1 (Int32.toNatClampNeg x19)))) rfl ?_
        refine xw_ns h (fun s25 h => ?_)
        refine xw_iinc C h (fun v => [(3, .int v), (0, .ref (q 0)), (1, .int y20), (2, .int y21)]) d_Mod_mount_108 3 rfl (by decide) (fun _ => rfl) (fun x26 h => ?_)
        refine xw_goto C d_Mod_mount_111 (tgt := 90) (by decide) ?_
        exact xw_lv [1, 2, 3, 0] rfl (ih _ _ h)
  have L116 : ∀ (y33 y34 : Int32) (k : Int32 → tj_S → Option (Int32 × tj_S)), (∀ (x42 : Int32) (s43 : tj_S), k x42 s43 = some (rE, sE) → tj_W Γ (M_cw K q) s43 [(0, .ref (q 0)), (1, .int y33), (2, .int y34), (3, .int x42)] 142 []) → ∀ (n : Nat) (x32 : Int32) (s35 : tj_S), f_Mod_mount_L116 y33 y34 k n x32 s35 = some (rE, sE) → tj_W Γ (M_cw K q) s35 [(0, .ref (q 0)), (1, .int y33), (2, .int y34), (3, .int x32)] 116 [] := by
    intro y33 y34 k hk n
    induction n with
    | zero => intro x32 s35 h; rw [f_Mod_mount_L116] at h; cases h
    | succ n ih =>
      intro x32 s35 h
      rw [f_Mod_mount_L116] at h
      refine xw_iload_n C d_Mod_mount_116 3 rfl ?_
      refine xw_bipush C d_Mod_mount_117 (v := 23) (by decide) ?_
      refine xw_icmp_ge C d_Mod_mount_119 (tgt := 142) (by decide) (fun hc41 => ?_) (fun hc41 => ?_)
      · replace h := it_t hc41 h
        exact xw_lv [0, 1, 2, 3] rfl (hk _ _ h)
      · replace h := it_f hc41 h
        refine xw_aload_n C d_Mod_mount_122 0 rfl ?_
        refine xw_get C F_Mod_ok 0 rfl rfl 2 (by decide) T_475 rfl d_Mod_mount_123 ?_
        refine xw_iload_n C d_Mod_mount_126 3 rfl ?_
        refine xw_iconst C d_Mod_mount_127 (v := 0) (by decide) ?_
        obtain ⟨hb36, h⟩ := gd_e h
        refine xw_zast C 3 2 rfl rfl hb36 d_Mod_mount_128 (σ1 := (up2 s35 3 (Int32.toNatClampNeg x32) (vp_nar .boolean (0 : Int32)))) rfl ?_
        refine xw_ns h (fun s37 h => ?_)
        refine xw_aload_n C d_Mod_mount_129 0 rfl ?_
        refine xw_get C F_Mod_ok 0 rfl rfl 3 (by decide) T_476 rfl d_Mod_mount_130 ?_
        refine xw_iload_n C d_Mod_mount_133 3 rfl ?_
        refine xw_iconst C d_Mod_mount_134 (v := 0) (by decide) ?_
        obtain ⟨hb38, h⟩ := gd_e h
        refine xw_zast C 4 3 rfl rfl hb38 d_Mod_mount_135 (σ1 := (up2 s37 4 (Int32.toNatClampNeg x32) (vp_nar .boolean (0 : Int32)))) rfl ?_
        refine xw_ns h (fun s39 h => ?_)
        refine xw_iinc C h (fun v => [(3, .int v), (0, .ref (q 0)), (1, .int y33), (2, .int y34)]) d_Mod_mount_136 3 rfl (by decide) (fun _ => rfl) (fun x40 h => ?_)
        refine xw_goto C d_Mod_mount_139 (tgt := 116) (by decide) ?_
        exact xw_lv [1, 2, 3, 0] rfl (ih _ _ h)
  unfold f_Mod_mount at h
  refine xw_aload_n C d_Mod_mount_0 0 rfl ?_
  refine xw_get C F_Mod_ok 0 rfl rfl 12 (by decide) T_485 rfl d_Mod_mount_1 ?_
  refine xw_if_ne C d_Mod_mount_4 (tgt := 16) (by decide) (fun hc66 => ?_) (fun hc66 => ?_)
  · replace h := it_f hc66 h
    refine xw_iconst C d_Mod_mount_16 (v := -1) (by decide) ?_
    exact fin _ _ _ _ h d_Mod_mount_17 rfl
  · replace h := it_t hc66 h
    refine xw_iload_n C d_Mod_mount_7 1 rfl ?_
    refine xw_if_lt C d_Mod_mount_8 (tgt := 16) (by decide) (fun hc65 => ?_) (fun hc65 => ?_)
    · replace h := it_t hc65 h
      refine xw_iconst C d_Mod_mount_16 (v := -1) (by decide) ?_
      exact fin _ _ _ _ h d_Mod_mount_17 rfl
    · replace h := it_f hc65 h
      refine xw_iload_n C d_Mod_mount_11 1 rfl ?_
      refine xw_iconst C d_Mod_mount_12 (v := 2) (by decide) ?_
      refine xw_icmp_le C d_Mod_mount_13 (tgt := 18) (by decide) (fun hc64 => ?_) (fun hc64 => ?_)
      · replace h := it_t hc64 h
        refine xw_iconst C d_Mod_mount_18 (v := 0) (by decide) ?_
        refine xw_istore_n C d_Mod_mount_19 rfl (by decide) (lv1 := [(2, .int (0 : Int32)), (0, .ref (q 0)), (1, .int a1)]) rfl ?_
        refine xw_lv [1, 2, 0] rfl (L20 _ _ (fun x12 s13 h => ?_) 100 _ _ h)
        refine xw_aload_n C d_Mod_mount_46 0 rfl ?_
        refine xw_get C F_Mod_ok 0 rfl rfl 10 (by decide) T_483 rfl d_Mod_mount_47 ?_
        refine xw_if_le C d_Mod_mount_50 (tgt := 63) (by decide) (fun hc63 => ?_) (fun hc63 => ?_)
        · replace h := it_t hc63 h
          refine xw_aload_n C d_Mod_mount_63 0 rfl ?_
          refine xw_get C F_Mod_ok 0 rfl rfl 10 (by decide) T_483 rfl d_Mod_mount_64 ?_
          refine xw_ni h (fun x14 h => ?_)
          refine xw_istore_n C d_Mod_mount_67 rfl (by decide) (lv1 := [(2, .int x14), (0, .ref (q 0)), (1, .int a1)]) rfl ?_
          refine xw_aload_n C d_Mod_mount_68 1 rfl ?_
          refine xw_iconst C d_Mod_mount_69 (v := 0) (by decide) ?_
          refine xw_put C F_Mod_ok 0 rfl rfl 10 (by decide) T_483 rfl rfl rfl (Nat.le_of_ble_eq_true rfl) d_Mod_mount_70 (σ1 := (up2 s13 0 10 (0 : Int32))) rfl ?_
          refine xw_ns h (fun s15 h => ?_)
          refine xw_aload_n C d_Mod_mount_73 1 rfl ?_
          refine xw_iconst C d_Mod_mount_74 (v := 1) (by decide) ?_
          refine xw_put C F_Mod_ok 0 rfl rfl 12 (by decide) T_485 rfl rfl rfl (Nat.le_of_ble_eq_true rfl) d_Mod_mount_75 (σ1 := (up2 s15 0 12 (1 : Int32))) rfl ?_
          refine xw_ns h (fun s16 h => ?_)
          refine xw_aload_n C d_Mod_mount_78 1 rfl ?_
          refine xw_iload_n C d_Mod_mount_79 2 rfl ?_
          refine xw_put C F_Mod_ok 0 rfl rfl 13 (by decide) T_486 rfl rfl rfl (Nat.le_of_ble_eq_true rfl) d_Mod_mount_80 (σ1 := (up2 s16 0 13 a1)) rfl ?_
          refine xw_ns h (fun s17 h => ?_)
          refine xw_aload_n C d_Mod_mount_83 1 rfl ?_
          refine xw_iconst C d_Mod_mount_84 (v := 0) (by decide) ?_
          refine xw_put C F_Mod_ok 0 rfl rfl 5 (by decide) T_478 rfl rfl rfl (Nat.le_of_ble_eq_true rfl) d_Mod_mount_85 (σ1 := (up2 s17 0 5 (0 : Int32))) rfl ?_
          refine xw_ns h (fun s18 h => ?_)
          refine xw_iconst C d_Mod_mount_88 (v := 0) (by decide) ?_
          refine xw_istore_n C d_Mod_mount_89 rfl (by decide) (lv1 := [(3, .int (0 : Int32)), (2, .int x14), (0, .ref (q 0)), (1, .int a1)]) rfl ?_
          refine xw_lv [2, 3, 1, 0] rfl (L90 _ _ _ (fun x30 s31 h => ?_) 100 _ _ h)
          refine xw_iconst C d_Mod_mount_114 (v := 0) (by decide) ?_
          refine xw_istore_n C d_Mod_mount_115 rfl (by decide) (lv1 := [(3, .int (0 : Int32)), (0, .ref (q 0)), (1, .int a1), (2, .int x14)]) rfl ?_
          refine xw_lv [1, 2, 3, 0] rfl (L116 _ _ _ (fun x44 s45 h => ?_) 100 _ _ h)
          refine xw_aload_n C d_Mod_mount_142 0 rfl ?_
          refine xw_aload_n C d_Mod_mount_143 0 rfl ?_
          refine xw_get C F_Mod_ok 0 rfl rfl 1 (by decide) T_474 rfl d_Mod_mount_144 ?_
          refine xw_bipush C d_Mod_mount_147 (v := 24) (by decide) ?_
          obtain ⟨hb46, h⟩ := gd_e h
          refine xw_iald C 2 1 rfl rfl hb46 d_Mod_mount_149 ?_
          refine xw_put C F_Mod_ok 0 rfl rfl 16 (by decide) T_489 rfl rfl rfl (Nat.le_of_ble_eq_true rfl) d_Mod_mount_150 (σ1 := (up2 s45 0 16 (s45 2 (Int32.toNatClampNeg (24 : Int32))))) rfl ?_
          refine xw_ns h (fun s47 h => ?_)
          refine xw_iload_n C d_Mod_mount_153 2 rfl ?_
          exact fin _ _ _ _ h d_Mod_mount_154 rfl
        · replace h := it_f hc63 h
          refine xw_aload_n C d_Mod_mount_53 0 rfl ?_
          obtain ⟨r50, s49, hc48, h⟩ := bd_e h
          refine xw_callV_i C tj_Tg tj_Ng (n := 0) (As := []) (rest := []) (c_Mod_spend hc48) T_564 T_561 T_6 T_563 S_25 0 rfl rfl rfl (by decide +kernel) (by decide) rfl rfl (Nat.le_of_ble_eq_true rfl) d_Mod_mount_54 ?_
          refine xw_if_ne C d_Mod_mount_57 (tgt := 63) (by decide) (fun hc62 => ?_) (fun hc62 => ?_)
          · replace h := it_f hc62 h
            refine xw_aload_n C d_Mod_mount_63 0 rfl ?_
            refine xw_get C F_Mod_ok 0 rfl rfl 10 (by decide) T_483 rfl d_Mod_mount_64 ?_
            refine xw_ni h (fun x51 h => ?_)
            refine xw_istore_n C d_Mod_mount_67 rfl (by decide) (lv1 := [(2, .int x51), (0, .ref (q 0)), (1, .int a1)]) rfl ?_
            refine xw_aload_n C d_Mod_mount_68 1 rfl ?_
            refine xw_iconst C d_Mod_mount_69 (v := 0) (by decide) ?_
            refine xw_put C F_Mod_ok 0 rfl rfl 10 (by decide) T_483 rfl rfl rfl (Nat.le_of_ble_eq_true rfl) d_Mod_mount_70 (σ1 := (up2 s49 0 10 (0 : Int32))) rfl ?_
            refine xw_ns h (fun s52 h => ?_)
            refine xw_aload_n C d_Mod_mount_73 1 rfl ?_
            refine xw_iconst C d_Mod_mount_74 (v := 1) (by decide) ?_
            refine xw_put C F_Mod_ok 0 rfl rfl 12 (by decide) T_485 rfl rfl rfl (Nat.le_of_ble_eq_true rfl) d_Mod_mount_75 (σ1 := (up2 s52 0 12 (1 : Int32))) rfl ?_
            refine xw_ns h (fun s53 h => ?_)
            refine xw_aload_n C d_Mod_mount_78 1 rfl ?_
            refine xw_iload_n C d_Mod_mount_79 2 rfl ?_
            refine xw_put C F_Mod_ok 0 rfl rfl 13 (by decide) T_486 rfl rfl rfl (Nat.le_of_ble_eq_true rfl) d_Mod_mount_80 (σ1 := (up2 s53 0 13 a1)) rfl ?_
            refine xw_ns h (fun s54 h => ?_)
            refine xw_aload_n C d_Mod_mount_83 1 rfl ?_
            refine xw_iconst C d_Mod_mount_84 (v := 0) (by decide) ?_
            refine xw_put C F_Mod_ok 0 rfl rfl 5 (by decide) T_478 rfl rfl rfl (Nat.le_of_ble_eq_true rfl) d_Mod_mount_85 (σ1 := (up2 s54 0 5 (0 : Int32))) rfl ?_
            refine xw_ns h (fun s55 h => ?_)
            refine xw_iconst C d_Mod_mount_88 (v := 0) (by decide) ?_
            refine xw_istore_n C d_Mod_mount_89 rfl (by decide) (lv1 := [(3, .int (0 : Int32)), (2, .int x51), (0, .ref (q 0)), (1, .int a1)]) rfl ?_
            refine xw_lv [2, 3, 1, 0] rfl (L90 _ _ _ (fun x56 s57 h => ?_) 100 _ _ h)
            refine xw_iconst C d_Mod_mount_114 (v := 0) (by decide) ?_
            refine xw_istore_n C d_Mod_mount_115 rfl (by decide) (lv1 := [(3, .int (0 : Int32)), (0, .ref (q 0)), (1, .int a1), (2, .int x51)]) rfl ?_
            refine xw_lv [1, 2, 3, 0] rfl (L116 _ _ _ (fun x58 s59 h => ?_) 100 _ _ h)
            refine xw_aload_n C d_Mod_mount_142 0 rfl ?_
            refine xw_aload_n C d_Mod_mount_143 0 rfl ?_
            refine xw_get C F_Mod_ok 0 rfl rfl 1 (by decide) T_474 rfl d_Mod_mount_144 ?_
            refine xw_bipush C d_Mod_mount_147 (v := 24) (by decide) ?_
            obtain ⟨hb60, h⟩ := gd_e h
            refine xw_iald C 2 1 rfl rfl hb60 d_Mod_mount_149 ?_
            refine xw_put C F_Mod_ok 0 rfl rfl 16 (by decide) T_489 rfl rfl rfl (Nat.le_of_ble_eq_true rfl) d_Mod_mount_150 (σ1 := (up2 s59 0 16 (s59 2 (Int32.toNatClampNeg (24 : Int32))))) rfl ?_
            refine xw_ns h (fun s61 h => ?_)
            refine xw_iload_n C d_Mod_mount_153 2 rfl ?_
            exact fin _ _ _ _ h d_Mod_mount_154 rfl
          · replace h := it_t hc62 h
            refine xw_bipush C d_Mod_mount_60 (v := -2) (by decide) ?_
            exact fin _ _ _ _ h d_Mod_mount_62 rfl
      · replace h := it_f hc64 h
        refine xw_iconst C d_Mod_mount_16 (v := -1) (by decide) ?_
        exact fin _ _ _ _ h d_Mod_mount_17 rfl
def f_Mod_mode (s0 : tj_S) : Option (Int32 × tj_S) :=
  if (s0 0 12) = (0 : Int32) then
    some ((-1 : Int32), s0)
  else
    some ((s0 0 13), s0)
set_option maxRecDepth 100000 in
set_option maxHeartbeats 4000000 in
theorem c_Mod_mode {l : Launch} {D : va_G} {K : Nat → ClassId} {q : Nat → Nat} {s0 sE : tj_S} {rE : Int32} (h : f_Mod_mode s0 = some (rE, sE)) : tj_Mi l D tj_cls (M_tys K) tj_N tj_T (M_cw K q) y_Mod_mode b_Mod_mode 1 .int 0 0 [.ref (q 0)] s0 rE sE := by
  refine tj_start_i (by decide +kernel) (Nat.le_of_ble_eq_true rfl) (fun Γ C fin => ?_)
  show tj_W Γ (M_cw K q) s0 [(0, .ref (q 0))] 0 []
  unfold f_Mod_mode at h
  refine xw_aload_n C d_Mod_mode_0 0 rfl ?_
  refine xw_get C F_Mod_ok 0 rfl rfl 12 (by decide) T_485 rfl d_Mod_mode_1 ?_
  refine xw_if_eq C d_Mod_mode_4 (tgt := 14) (by decide) (fun hc1 => ?_) (fun hc1 => ?_)
  · replace h := it_t hc1 h
    refine xw_iconst C d_Mod_mode_14 (v := -1) (by decide) ?_
    exact fin _ _ _ _ h d_Mod_mode_15 rfl
  · replace h := it_f hc1 h
    refine xw_aload_n C d_Mod_mode_7 0 rfl ?_
    refine xw_get C F_Mod_ok 0 rfl rfl 13 (by decide) T_486 rfl d_Mod_mode_8 ?_
    refine xw_goto C d_Mod_mode_11 (tgt := 15) (by decide) ?_
    exact fin _ _ _ _ h d_Mod_mode_15 rfl
def f_Mod_home (a1 a2 : Int32) (s0 : tj_S) : Option (Int32 × tj_S) :=
  if a1 < (0 : Int32) then
    some ((0 : Int32), s0)
  else
    if (23 : Int32) ≤ a1 then
      some ((0 : Int32), s0)
    else
      if a2 < (0 : Int32) then
        some ((0 : Int32), s0)
      else
        if a2 ≤ (3 : Int32) then
          gd (inb (((4 : Int32) * a1) + a2) 92) <|
          some ((s0 1 (Int32.toNatClampNeg (((4 : Int32) * a1) + a2))), s0)
        else
          some ((0 : Int32), s0)
set_option maxRecDepth 100000 in
set_option maxHeartbeats 4000000 in
theorem c_Mod_home {l : Launch} {D : va_G} {K : Nat → ClassId} {q : Nat → Nat} {a1 a2 : Int32} {s0 sE : tj_S} {rE : Int32} (h : f_Mod_home a1 a2 s0 = some (rE, sE)) : tj_Mi l D tj_cls (M_tys K) tj_N tj_T (M_cw K q) y_Mod_home b_Mod_home 3 .int 0 0 [.ref (q 0), .int a1, .int a2] s0 rE sE := by
  refine tj_start_i (by decide +kernel) (Nat.le_of_ble_eq_true rfl) (fun Γ C fin => ?_)
  show tj_W Γ (M_cw K q) s0 [(0, .ref (q 0)), (1, .int a1), (2, .int a2)] 0 []
  unfold f_Mod_home at h
  refine xw_iload_n C d_Mod_home_0 1 rfl ?_
  refine xw_if_lt C d_Mod_home_1 (tgt := 19) (by decide) (fun hc5 => ?_) (fun hc5 => ?_)
  · replace h := it_t hc5 h
    refine xw_iconst C d_Mod_home_19 (v := 0) (by decide) ?_
    refine xw_goto C d_Mod_home_20 (tgt := 33) (by decide) ?_
    exact fin _ _ _ _ h d_Mod_home_33 rfl
  · replace h := it_f hc5 h
    refine xw_iload_n C d_Mod_home_4 1 rfl ?_
    refine xw_bipush C d_Mod_home_5 (v := 23) (by decide) ?_
    refine xw_icmp_ge C d_Mod_home_7 (tgt := 19) (by decide) (fun hc4 => ?_) (fun hc4 => ?_)
    · replace h := it_t hc4 h
      refine xw_iconst C d_Mod_home_19 (v := 0) (by decide) ?_
      refine xw_goto C d_Mod_home_20 (tgt := 33) (by decide) ?_
      exact fin _ _ _ _ h d_Mod_home_33 rfl
    · replace h := it_f hc4 h
      refine xw_iload_n C d_Mod_home_10 2 rfl ?_
      refine xw_if_lt C d_Mod_home_11 (tgt := 19) (by decide) (fun hc3 => ?_) (fun hc3 => ?_)
      · replace h := it_t hc3 h
        refine xw_iconst C d_Mod_home_19 (v := 0) (by decide) ?_
        refine xw_goto C d_Mod_home_20 (tgt := 33) (by decide) ?_
        exact fin _ _ _ _ h d_Mod_home_33 rfl
      · replace h := it_f hc3 h
        refine xw_iload_n C d_Mod_home_14 2 rfl ?_
        refine xw_iconst C d_Mod_home_15 (v := 3) (by decide) ?_
        refine xw_icmp_le C d_Mod_home_16 (tgt := 23) (by decide) (fun hc2 => ?_) (fun hc2 => ?_)
        · replace h := it_t hc2 h
          refine xw_aload_n C d_Mod_home_23 0 rfl ?_
          refine xw_get C F_Mod_ok 0 rfl rfl 0 (by decide) T_473 rfl d_Mod_home_24 ?_
          refine xw_iconst C d_Mod_home_27 (v := 4) (by decide) ?_
          refine xw_iload_n C d_Mod_home_28 1 rfl ?_
          refine xw_imul C d_Mod_home_29 ?_
          refine xw_iload_n C d_Mod_home_30 2 rfl ?_
          refine xw_iadd C d_Mod_home_31 ?_
          obtain ⟨hb1, h⟩ := gd_e h
          refine xw_iald C 1 0 rfl rfl hb1 d_Mod_home_32 ?_
          exact fin _ _ _ _ h d_Mod_home_33 rfl
        · replace h := it_f hc2 h
          refine xw_iconst C d_Mod_home_19 (v := 0) (by decide) ?_
          refine xw_goto C d_Mod_home_20 (tgt := 33) (by decide) ?_
          exact fin _ _ _ _ h d_Mod_home_33 rfl
def f_Mod_need (s0 : tj_S) : Option (Int32 × tj_S) :=
  if (s0 0 12) = (0 : Int32) then
    some ((-1 : Int32), s0)
  else
    bd (f_Mod_needs s0) fun r3 s2 =>
    some (r3, s2)
set_option maxRecDepth 100000 in
set_option maxHeartbeats 4000000 in
theorem c_Mod_need {l : Launch} {D : va_G} {K : Nat → ClassId} {q : Nat → Nat} {s0 sE : tj_S} {rE : Int32} (h : f_Mod_need s0 = some (rE, sE)) : tj_Mi l D tj_cls (M_tys K) tj_N tj_T (M_cw K q) y_Mod_need b_Mod_need 1 .int 1 23 [.ref (q 0)] s0 rE sE := by
  refine tj_start_i (by decide +kernel) (Nat.le_of_ble_eq_true rfl) (fun Γ C fin => ?_)
  show tj_W Γ (M_cw K q) s0 [(0, .ref (q 0))] 0 []
  unfold f_Mod_need at h
  refine xw_aload_n C d_Mod_need_0 0 rfl ?_
  refine xw_get C F_Mod_ok 0 rfl rfl 12 (by decide) T_485 rfl d_Mod_need_1 ?_
  refine xw_if_eq C d_Mod_need_4 (tgt := 14) (by decide) (fun hc4 => ?_) (fun hc4 => ?_)
  · replace h := it_t hc4 h
    refine xw_iconst C d_Mod_need_14 (v := -1) (by decide) ?_
    exact fin _ _ _ _ h d_Mod_need_15 rfl
  · replace h := it_f hc4 h
    refine xw_aload_n C d_Mod_need_7 0 rfl ?_
    obtain ⟨r3, s2, hc1, h⟩ := bd_e h
    refine xw_callV_i C tj_Tg tj_Ng (n := 0) (As := []) (rest := []) (c_Mod_needs hc1) T_552 T_549 T_6 T_551 S_22 0 rfl rfl rfl (by decide +kernel) (by decide) rfl rfl (Nat.le_of_ble_eq_true rfl) d_Mod_need_8 ?_
    refine xw_goto C d_Mod_need_11 (tgt := 15) (by decide) ?_
    exact fin _ _ _ _ h d_Mod_need_15 rfl
def f_Mod_room (s0 : tj_S) : Option (Int32 × tj_S) :=
  if (s0 0 12) = (0 : Int32) then
    some ((-1 : Int32), s0)
  else
    bd (f_Mod_vacant s0) fun r3 s2 =>
    some (r3, s2)
set_option maxRecDepth 100000 in
set_option maxHeartbeats 4000000 in
theorem c_Mod_room {l : Launch} {D : va_G} {K : Nat → ClassId} {q : Nat → Nat} {s0 sE : tj_S} {rE : Int32} (h : f_Mod_room s0 = some (rE, sE)) : tj_Mi l D tj_cls (M_tys K) tj_N tj_T (M_cw K q) y_Mod_room b_Mod_room 1 .int 1 22 [.ref (q 0)] s0 rE sE := by
  refine tj_start_i (by decide +kernel) (Nat.le_of_ble_eq_true rfl) (fun Γ C fin => ?_)
  show tj_W Γ (M_cw K q) s0 [(0, .ref (q 0))] 0 []
  unfold f_Mod_room at h
  refine xw_aload_n C d_Mod_room_0 0 rfl ?_
  refine xw_get C F_Mod_ok 0 rfl rfl 12 (by decide) T_485 rfl d_Mod_room_1 ?_
  refine xw_if_eq C d_Mod_room_4 (tgt := 14) (by decide) (fun hc4 => ?_) (fun hc4 => ?_)
  · replace h := it_t hc4 h
    refine xw_iconst C d_Mod_room_14 (v := -1) (by decide) ?_
    exact fin _ _ _ _ h d_Mod_room_15 rfl
  · replace h := it_f hc4 h
    refine xw_aload_n C d_Mod_room_7 0 rfl ?_
    obtain ⟨r3, s2, hc1, h⟩ := bd_e h
    refine xw_callV_i C tj_Tg tj_Ng (n := 0) (As := []) (rest := []) (c_Mod_vacant hc1) T_576 T_573 T_6 T_575 S_28 0 rfl rfl rfl (by decide +kernel) (by decide) rfl rfl (Nat.le_of_ble_eq_true rfl) d_Mod_room_8 ?_
    refine xw_goto C d_Mod_room_11 (tgt := 15) (by decide) ?_
    exact fin _ _ _ _ h d_Mod_room_15 rfl
def f_Mod_head (s0 : tj_S) : Option (Int32 × tj_S) :=
  if (s0 0 12) = (0 : Int32) then
    some ((-1 : Int32), s0)
  else
    some ((s0 0 11), s0)
set_option maxRecDepth 100000 in
set_option maxHeartbeats 4000000 in
theorem c_Mod_head {l : Launch} {D : va_G} {K : Nat → ClassId} {q : Nat → Nat} {s0 sE : tj_S} {rE : Int32} (h : f_Mod_head s0 = some (rE, sE)) : tj_Mi l D tj_cls (M_tys K) tj_N tj_T (M_cw K q) y_Mod_head b_Mod_head 1 .int 0 0 [.ref (q 0)] s0 rE sE := by
  refine tj_start_i (by decide +kernel) (Nat.le_of_ble_eq_true rfl) (fun Γ C fin => ?_)
  show tj_W Γ (M_cw K q) s0 [(0, .ref (q 0))] 0 []
  unfold f_Mod_head at h
  refine xw_aload_n C d_Mod_head_0 0 rfl ?_
  refine xw_get C F_Mod_ok 0 rfl rfl 12 (by decide) T_485 rfl d_Mod_head_1 ?_
  refine xw_if_eq C d_Mod_head_4 (tgt := 14) (by decide) (fun hc1 => ?_) (fun hc1 => ?_)
  · replace h := it_t hc1 h
    refine xw_iconst C d_Mod_head_14 (v := -1) (by decide) ?_
    exact fin _ _ _ _ h d_Mod_head_15 rfl
  · replace h := it_f hc1 h
    refine xw_aload_n C d_Mod_head_7 0 rfl ?_
    refine xw_get C F_Mod_ok 0 rfl rfl 11 (by decide) T_484 rfl d_Mod_head_8 ?_
    refine xw_goto C d_Mod_head_11 (tgt := 15) (by decide) ?_
    exact fin _ _ _ _ h d_Mod_head_15 rfl
def f_Mod_dirty (s0 : tj_S) : Option (Int32 × tj_S) :=
  if (s0 0 12) = (0 : Int32) then
    some ((-1 : Int32), s0)
  else
    some ((s0 0 5), s0)
set_option maxRecDepth 100000 in
set_option maxHeartbeats 4000000 in
theorem c_Mod_dirty {l : Launch} {D : va_G} {K : Nat → ClassId} {q : Nat → Nat} {s0 sE : tj_S} {rE : Int32} (h : f_Mod_dirty s0 = some (rE, sE)) : tj_Mi l D tj_cls (M_tys K) tj_N tj_T (M_cw K q) y_Mod_dirty b_Mod_dirty 1 .int 0 0 [.ref (q 0)] s0 rE sE := by
  refine tj_start_i (by decide +kernel) (Nat.le_of_ble_eq_true rfl) (fun Γ C fin => ?_)
  show tj_W Γ (M_cw K q) s0 [(0, .ref (q 0))] 0 []
  unfold f_Mod_dirty at h
  refine xw_aload_n C d_Mod_dirty_0 0 rfl ?_
  refine xw_get C F_Mod_ok 0 rfl rfl 12 (by decide) T_485 rfl d_Mod_dirty_1 ?_
  refine xw_if_eq C d_Mod_dirty_4 (tgt := 14) (by decide) (fun hc1 => ?_) (fun hc1 => ?_)
  · replace h := it_t hc1 h
    refine xw_iconst C d_Mod_dirty_14 (v := -1) (by decide) ?_
    exact fin _ _ _ _ h d_Mod_dirty_15 rfl
  · replace h := it_f hc1 h
    refine xw_aload_n C d_Mod_dirty_7 0 rfl ?_
    refine xw_get C F_Mod_ok 0 rfl rfl 5 (by decide) T_478 rfl d_Mod_dirty_8 ?_
    refine xw_goto C d_Mod_dirty_11 (tgt := 15) (by decide) ?_
    exact fin _ _ _ _ h d_Mod_dirty_15 rfl
