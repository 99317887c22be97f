def f_Mod_ready (s0 : tj_S) : Option (Int32 × tj_S) :=
  bd (f_Mod_needs s0) fun r3 s2 =>
  if r3 ≤ (12 : Int32) then
    some ((1 : Int32), s2)
  else
    bd (f_Mod_seal s2) fun r6 s5 =>
    if r6 = (-2 : Int32) then
      some ((0 : Int32), s5)
    else
      some ((1 : Int32), s5)
set_option maxRecDepth 100000 in
set_option maxHeartbeats 4000000 in
theorem c_Mod_ready {l : Launch} {D : va_G} {K : Nat → ClassId} {q : Nat → Nat} {s0 sE : tj_S} {rE : Int32} (h : f_Mod_ready s0 = some (rE, sE)) : tj_Mi l D tj_cls (M_tys K) tj_N tj_T (M_cw K q) y_Mod_ready b_Mod_ready 1 .boolean 5 110 [.ref (q 0)] s0 rE sE := by
  refine tj_start_i (by decide +kernel) (Nat.le_of_ble_eq_true rfl) (fun Γ C fin => ?_)
  show tj_W Γ (M_cw K q) s0 [(0, .ref (q 0))] 0 []
  unfold f_Mod_ready at h
  refine xw_aload_n C d_Mod_ready_0 0 rfl ?_
  obtain ⟨r3, s2, hc1, h⟩ := bd_e h
  refine xw_callV_i C tj_Tg tj_Ng (n := 0) (As := []) (rest := []) (c_Mod_needs hc1) T_552 T_549 T_6 T_551 S_22 0 rfl rfl rfl (by decide +kernel) (by decide) rfl rfl (Nat.le_of_ble_eq_true rfl) d_Mod_ready_1 ?_
  refine xw_bipush C d_Mod_ready_4 (v := 12) (by decide) ?_
  refine xw_icmp_le C d_Mod_ready_6 (tgt := 18) (by decide) (fun hc8 => ?_) (fun hc8 => ?_)
  · replace h := it_t hc8 h
    refine xw_iconst C d_Mod_ready_18 (v := 1) (by decide) ?_
    refine xw_goto C d_Mod_ready_19 (tgt := 23) (by decide) ?_
    exact fin _ _ _ _ h d_Mod_ready_23 rfl
  · replace h := it_f hc8 h
    refine xw_aload_n C d_Mod_ready_9 0 rfl ?_
    obtain ⟨r6, s5, hc4, h⟩ := bd_e h
    refine xw_callV_i C tj_Tg tj_Ng (n := 0) (As := []) (rest := []) (c_Mod_seal hc4) T_556 T_553 T_6 T_555 S_23 0 rfl rfl rfl (by decide +kernel) (by decide) rfl rfl (Nat.le_of_ble_eq_true rfl) d_Mod_ready_10 ?_
    refine xw_bipush C d_Mod_ready_13 (v := -2) (by decide) ?_
    refine xw_icmp_eq C d_Mod_ready_15 (tgt := 22) (by decide) (fun hc7 => ?_) (fun hc7 => ?_)
    · replace h := it_t hc7 h
      refine xw_iconst C d_Mod_ready_22 (v := 0) (by decide) ?_
      exact fin _ _ _ _ h d_Mod_ready_23 rfl
    · replace h := it_f hc7 h
      refine xw_iconst C d_Mod_ready_18 (v := 1) (by decide) ?_
      refine xw_goto C d_Mod_ready_19 (tgt := 23) (by decide) ?_
      exact fin _ _ _ _ h d_Mod_ready_23 rfl
def f_Mod_cell (a1 a2 : Int32) (s0 : tj_S) : Option (Int32 × tj_S) :=
  if (2 : Int32) ≤ a2 then
    gd (inb (((4 : Int32) * a1) + (3 : Int32)) 92) <|
    some (((((4 : Int32) * (s0 2 (Int32.toNatClampNeg (((4 : Int32) * a1) + (3 : Int32))))) + a2) - (2 : Int32)), s0)
  else
    some (((((4 : Int32) * a1) + (1 : Int32)) + a2), s0)
set_option maxRecDepth 100000 in
set_option maxHeartbeats 4000000 in
theorem c_Mod_cell {l : Launch} {D : va_G} {K : Nat → ClassId} {q : Nat → Nat} {a1 a2 : Int32} {s0 sE : tj_S} {rE : Int32} (h : f_Mod_cell a1 a2 s0 = some (rE, sE)) : tj_Mi l D tj_cls (M_tys K) tj_N tj_T (M_cw K q) y_Mod_cell b_Mod_cell 3 .int 0 0 [.ref (q 0), .int a1, .int a2] s0 rE sE := by
  refine tj_start_i (by decide +kernel) (Nat.le_of_ble_eq_true rfl) (fun Γ C fin => ?_)
  show tj_W Γ (M_cw K q) s0 [(0, .ref (q 0)), (1, .int a1), (2, .int a2)] 0 []
  unfold f_Mod_cell at h
  refine xw_iload_n C d_Mod_cell_0 2 rfl ?_
  refine xw_iconst C d_Mod_cell_1 (v := 2) (by decide) ?_
  refine xw_icmp_ge C d_Mod_cell_2 (tgt := 15) (by decide) (fun hc2 => ?_) (fun hc2 => ?_)
  · replace h := it_t hc2 h
    refine xw_iconst C d_Mod_cell_15 (v := 4) (by decide) ?_
    refine xw_aload_n C d_Mod_cell_16 0 rfl ?_
    refine xw_get C F_Mod_ok 0 rfl rfl 1 (by decide) T_474 rfl d_Mod_cell_17 ?_
    refine xw_iconst C d_Mod_cell_20 (v := 4) (by decide) ?_
    refine xw_iload_n C d_Mod_cell_21 1 rfl ?_
    refine xw_imul C d_Mod_cell_22 ?_
    refine xw_iconst C d_Mod_cell_23 (v := 3) (by decide) ?_
    refine xw_iadd C d_Mod_cell_24 ?_
    obtain ⟨hb1, h⟩ := gd_e h
    refine xw_iald C 2 1 rfl rfl hb1 d_Mod_cell_25 ?_
    refine xw_imul C d_Mod_cell_26 ?_
    refine xw_iload_n C d_Mod_cell_27 2 rfl ?_
    refine xw_iadd C d_Mod_cell_28 ?_
    refine xw_iconst C d_Mod_cell_29 (v := 2) (by decide) ?_
    refine xw_isub C d_Mod_cell_30 ?_
    exact fin _ _ _ _ h d_Mod_cell_31 rfl
  · replace h := it_f hc2 h
    refine xw_iconst C d_Mod_cell_5 (v := 4) (by decide) ?_
    refine xw_iload_n C d_Mod_cell_6 1 rfl ?_
    refine xw_imul C d_Mod_cell_7 ?_
    refine xw_iconst C d_Mod_cell_8 (v := 1) (by decide) ?_
    refine xw_iadd C d_Mod_cell_9 ?_
    refine xw_iload_n C d_Mod_cell_10 2 rfl ?_
    refine xw_iadd C d_Mod_cell_11 ?_
    refine xw_goto C d_Mod_cell_12 (tgt := 31) (by decide) ?_
    exact fin _ _ _ _ h d_Mod_cell_31 rfl
def f_Mod_isDirty_L2 (y2 : Int32) (k : Int32 → tj_S → Option (Int32 × tj_S)) : Nat → Int32 → tj_S → Option (Int32 × tj_S)
  | 0, _, _ => none
  | n + 1, x1, s3 =>
    if (s3 0 5) ≤ x1 then
      k x1 s3
    else
      gd (inb x1 16) <|
      if (s3 5 (Int32.toNatClampNeg x1)) = y2 then
        some ((1 : Int32), s3)
      else
        nm (x1 + Int32.ofInt 1) fun x5 =>
        f_Mod_isDirty_L2 y2 k n x5 s3
def f_Mod_isDirty (a1 : Int32) (s0 : tj_S) : Option (Int32 × tj_S) :=
  f_Mod_isDirty_L2 a1 (fun x10 s11 =>
    some ((0 : Int32), s11)) 100 (0 : Int32) s0
set_option maxRecDepth 100000 in
set_option maxHeartbeats 4000000 in
theorem c_Mod_isDirty {l : Launch} {D : va_G} {K : Nat → ClassId} {q : Nat → Nat} {a1 : Int32} {s0 sE : tj_S} {rE : Int32} (h : f_Mod_isDirty a1 s0 = some (rE, sE)) : tj_Mi l D tj_cls (M_tys K) tj_N tj_T (M_cw K q) y_Mod_isDirty b_Mod_isDirty 3 .boolean 0 0 [.ref (q 0), .int a1] s0 rE sE := by
  refine tj_start_i (by decide +kernel) (Nat.le_of_ble_eq_true rfl) (fun Γ C fin => ?_)
  show tj_W Γ (M_cw K q) s0 [(0, .ref (q 0)), (1, .int a1)] 0 []
  have L2 : ∀ (y2 : Int32) (k : Int32 → tj_S → Option (Int32 × tj_S)), (∀ (x8 : Int32) (s9 : tj_S), k x8 s9 = some (rE, sE) → tj_W Γ (M_cw K q) s9 [(0, .ref (q 0)), (1, .int y2), (2, .int x8)] 28 []) → ∀ (n : Nat) (x1 : Int32) (s3 : tj_S), f_Mod_isDirty_L2 y2 k n x1 s3 = some (rE, sE) → tj_W Γ (M_cw K q) s3 [(0, .ref (q 0)), (1, .int y2), (2, .int x1)] 2 [] := by
    intro y2 k hk n
    induction n with
    | zero => intro x1 s3 h; rw [f_Mod_isDirty_L2] at h; cases h
    | succ n ih =>
      intro x1 s3 h
      rw [f_Mod_isDirty_L2] at h
      refine xw_iload_n C d_Mod_isDirty_2 2 rfl ?_
      refine xw_aload_n C d_Mod_isDirty_3 0 rfl ?_
      refine xw_get C F_Mod_ok 0 rfl rfl 5 (by decide) T_478 rfl d_Mod_isDirty_4 ?_
      refine xw_icmp_ge C d_Mod_isDirty_7 (tgt := 28) (by decide) (fun hc7 => ?_) (fun hc7 => ?_)
      · replace h := it_t hc7 h
        exact xw_lv [0, 1, 2] rfl (hk _ _ h)
      · replace h := it_f hc7 h
        refine xw_aload_n C d_Mod_isDirty_10 0 rfl ?_
        refine xw_get C F_Mod_ok 0 rfl rfl 4 (by decide) T_477 rfl d_Mod_isDirty_11 ?_
        refine xw_iload_n C d_Mod_isDirty_14 2 rfl ?_
        obtain ⟨hb4, h⟩ := gd_e h
        refine xw_iald C 5 4 rfl rfl hb4 d_Mod_isDirty_15 ?_
        refine xw_iload_n C d_Mod_isDirty_16 1 rfl ?_
        refine xw_icmp_ne C d_Mod_isDirty_17 (tgt := 22) (by decide) (fun hc6 => ?_) (fun hc6 => ?_)
        · replace h := it_f hc6 h
          refine xw_iinc C h (fun v => [(2, .int v), (0, .ref (q 0)), (1, .int y2)]) d_Mod_isDirty_22 2 rfl (by decide) (fun _ => rfl) (fun x5 h => ?_)
          refine xw_goto C d_Mod_isDirty_25 (tgt := 2) (by decide) ?_
          exact xw_lv [1, 2, 0] rfl (ih _ _ h)
        · replace h := it_t hc6 h
          refine xw_iconst C d_Mod_isDirty_20 (v := 1) (by decide) ?_
          exact fin _ _ _ _ h d_Mod_isDirty_21 rfl
  unfold f_Mod_isDirty at h
  refine xw_iconst C d_Mod_isDirty_0 (v := 0) (by decide) ?_
  refine xw_istore_n C d_Mod_isDirty_1 rfl (by decide) (lv1 := [(2, .int (0 : Int32)), (0, .ref (q 0)), (1, .int a1)]) rfl ?_
  refine xw_lv [1, 2, 0] rfl (L2 _ _ (fun x10 s11 h => ?_) 100 _ _ h)
  refine xw_iconst C d_Mod_isDirty_28 (v := 0) (by decide) ?_
  exact fin _ _ _ _ h d_Mod_isDirty_29 rfl
def f_Mod_remap_L5 (k : Int32 → Int32 → tj_S → Option (tj_S)) : Nat → Int32 → Int32 → tj_S → Option (tj_S)
  | 0, _, _, _ => none
  | n + 1, x1, x2, s3 =>
    if (23 : Int32) ≤ x2 then
      k x1 x2 s3
    else
      bd (f_Mod_used x2 s3) fun r6 s5 =>
      if r6 = (0 : Int32) then
        nm (x2 + Int32.ofInt 1) fun x7 =>
        f_Mod_remap_L5 k n x1 x7 s5
      else
        nm ((x1 ||| ((1 : Int32) <<< ((x2 - (7 : Int32)) &&& 31)))) fun x8 =>
        nm (x2 + Int32.ofInt 1) fun x9 =>
        f_Mod_remap_L5 k n x8 x9 s5
def f_Mod_remap (s0 : tj_S) : Option (tj_S) :=
  f_Mod_remap_L5 (fun x15 x16 s17 =>
    gd (inb (24 : Int32) 92) <|
    nm (up2 s17 2 (Int32.toNatClampNeg (24 : Int32)) x15) fun s19 =>
    gd (inb (6 : Int32) 23) <|
    nm (up2 s19 3 (Int32.toNatClampNeg (6 : Int32)) (vp_nar .boolean (1 : Int32))) fun s21 =>
    some s21) 100 (0 : Int32) (7 : Int32) s0
set_option maxRecDepth 100000 in
set_option maxHeartbeats 4000000 in
theorem c_Mod_remap {l : Launch} {D : va_G} {K : Nat → ClassId} {q : Nat → Nat} {s0 sE : tj_S} (h : f_Mod_remap s0 = some sE) : tj_Mv l D tj_cls (M_tys K) tj_N tj_T (M_cw K q) y_Mod_remap b_Mod_remap 3 1 24 [.ref (q 0)] s0 sE := by
  refine tj_start_v (by decide +kernel) (Nat.le_of_ble_eq_true rfl) (fun Γ C fin => ?_)
  show tj_W Γ (M_cw K q) s0 [(0, .ref (q 0))] 0 []
  have L5 : ∀ (k : Int32 → Int32 → tj_S → Option (tj_S)), (∀ (x12 x13 : Int32) (s14 : tj_S), k x12 x13 s14 = some sE → tj_W Γ (M_cw K q) s14 [(0, .ref (q 0)), (1, .int x12), (2, .int x13)] 38 []) → ∀ (n : Nat) (x1 x2 : Int32) (s3 : tj_S), f_Mod_remap_L5 k n x1 x2 s3 = some sE → tj_W Γ (M_cw K q) s3 [(0, .ref (q 0)), (1, .int x1), (2, .int x2)] 5 [] := by
    intro k hk n
    induction n with
    | zero => intro x1 x2 s3 h; rw [f_Mod_remap_L5] at h; cases h
    | succ n ih =>
      intro x1 x2 s3 h
      rw [f_Mod_remap_L5] at h
      refine xw_iload_n C d_Mod_remap_5 2 rfl ?_
      refine xw_bipush C d_Mod_remap_6 (v := 23) (by decide) ?_
      refine xw_icmp_ge C d_Mod_remap_8 (tgt := 38) (by decide) (fun hc11 => ?_) (fun hc11 => ?_)
      · replace h := it_t hc11 h
        exact xw_lv [0, 1, 2] rfl (hk _ _ _ h)
      · replace h := it_f hc11 h
        refine xw_aload_n C d_Mod_remap_11 0 rfl ?_
        refine xw_iload_n C d_Mod_remap_12 2 rfl ?_
        obtain ⟨r6, s5, hc4, h⟩ := bd_e h
        refine xw_callV_i C tj_Tg tj_Ng (n := 1) (As := [.int x2]) (rest := []) (c_Mod_used hc4) T_544 T_541 T_6 T_543 S_20 0 rfl rfl rfl (by decide +kernel) (by decide) rfl rfl (Nat.le_of_ble_eq_true rfl) d_Mod_remap_13 ?_
        refine xw_if_eq C d_Mod_remap_16 (tgt := 30) (by decide) (fun hc10 => ?_) (fun hc10 => ?_)
        · replace h := it_t hc10 h
          refine xw_iload_n C d_Mod_remap_30 1 rfl ?_
          refine xw_istore_n C d_Mod_remap_31 rfl (by decide) (lv1 := [(1, .int x1), (0, .ref (q 0)), (2, .int x2)]) rfl ?_
          refine xw_iinc C h (fun v => [(2, .int v), (1, .int x1), (0, .ref (q 0))]) d_Mod_remap_32 2 rfl (by decide) (fun _ => rfl) (fun x7 h => ?_)
          refine xw_goto C d_Mod_remap_35 (tgt := 5) (by decide) ?_
          exact xw_lv [2, 1, 0] rfl (ih _ _ _ h)
        · replace h := it_f hc10 h
          refine xw_iload_n C d_Mod_remap_19 1 rfl ?_
          refine xw_iconst C d_Mod_remap_20 (v := 1) (by decide) ?_
          refine xw_iload_n C d_Mod_remap_21 2 rfl ?_
          refine xw_bipush C d_Mod_remap_22 (v := 7) (by decide) ?_
          refine xw_isub C d_Mod_remap_24 ?_
          refine xw_ishl C d_Mod_remap_25 ?_
          refine xw_ior C d_Mod_remap_26 ?_
          refine xw_goto C d_Mod_remap_27 (tgt := 31) (by decide) ?_
          refine xw_ni h (fun x8 h => ?_)
          refine xw_istore_n C d_Mod_remap_31 rfl (by decide) (lv1 := [(1, .int x8), (0, .ref (q 0)), (2, .int x2)]) rfl ?_
          refine xw_iinc C h (fun v => [(2, .int v), (1, .int x8), (0, .ref (q 0))]) d_Mod_remap_32 2 rfl (by decide) (fun _ => rfl) (fun x9 h => ?_)
          refine xw_goto C d_Mod_remap_35 (tgt := 5) (by decide) ?_
          exact xw_lv [2, 1, 0] rfl (ih _ _ _ h)
  unfold f_Mod_remap at h
  refine xw_iconst C d_Mod_remap_0 (v := 0) (by decide) ?_
  refine xw_istore_n C d_Mod_remap_1 rfl (by decide) (lv1 := [(1, .int (0 : Int32)), (0, .ref (q 0))]) rfl ?_
  refine xw_bipush C d_Mod_remap_2 (v := 7) (by decide) ?_
  refine xw_istore_n C d_Mod_remap_4 rfl (by decide) (lv1 := [(2, .int (7 : Int32)), (1, .int (0 : Int32)), (0, .ref (q 0))]) rfl ?_
  refine xw_lv [2, 1, 0] rfl (L5 _ (fun x15 x16 s17 h => ?_) 100 _ _ _ h)
  refine xw_aload_n C d_Mod_remap_38 0 rfl ?_
  refine xw_get C F_Mod_ok 0 rfl rfl 1 (by decide) T_474 rfl d_Mod_remap_39 ?_
  refine xw_bipush C d_Mod_remap_42 (v := 24) (by decide) ?_
  refine xw_iload_n C d_Mod_remap_44 1 rfl ?_
  obtain ⟨hb18, h⟩ := gd_e h
  refine xw_iast C 2 1 rfl rfl hb18 d_Mod_remap_45 (σ1 := (up2 s17 2 (Int32.toNatClampNeg (24 : Int32)) x15)) rfl ?_
  refine xw_ns h (fun s19 h => ?_)
  refine xw_aload_n C d_Mod_remap_46 0 rfl ?_
  refine xw_get C F_Mod_ok 0 rfl rfl 2 (by decide) T_475 rfl d_Mod_remap_47 ?_
  refine xw_bipush C d_Mod_remap_50 (v := 6) (by decide) ?_
  refine xw_iconst C d_Mod_remap_52 (v := 1) (by decide) ?_
  obtain ⟨hb20, h⟩ := gd_e h
  refine xw_zast C 3 2 rfl rfl hb20 d_Mod_remap_53 (σ1 := (up2 s19 3 (Int32.toNatClampNeg (6 : Int32)) (vp_nar .boolean (1 : Int32)))) rfl ?_
  refine xw_ns h (fun s21 h => ?_)
  exact fin _ _ _ h d_Mod_remap_54
def f_Mod_take_L3 (y2 : Int32) (k : Int32 → tj_S → Option (Int32 × tj_S)) : Nat → Int32 → tj_S → Option (Int32 × tj_S)
  | 0, _, _ => none
  | n + 1, x1, s3 =>
    if (23 : Int32) ≤ x1 then
      k x1 s3
    else
      bd (f_Mod_open x1 s3) fun r6 s5 =>
      if r6 = (0 : Int32) then
        nm (x1 + Int32.ofInt 1) fun x7 =>
        f_Mod_take_L3 y2 k n x7 s5
      else
        k x1 s5
def f_Mod_take_L25 (y15 y16 : Int32) (k : Int32 → tj_S → Option (Int32 × tj_S)) : Nat → Int32 → tj_S → Option (Int32 × tj_S)
  | 0, _, _ => none
  | n + 1, x14, s17 =>
    if (4 : Int32) ≤ x14 then
      k x14 s17
    else
      gd (inb (((4 : Int32) * y16) + x14) 92) <|
      nm (up2 s17 2 (Int32.toNatClampNeg (((4 : Int32) * y16) + x14)) (0 : Int32)) fun s19 =>
      nm (x14 + Int32.ofInt 1) fun x20 =>
      f_Mod_take_L25 y15 y16 k n x20 s19
def f_Mod_take (a1 : Int32) (s0 : tj_S) : Option (Int32 × tj_S) :=
  f_Mod_take_L3 a1 (fun x12 s13 =>
    f_Mod_take_L25 a1 x12 (fun x24 s25 =>
      gd (inb a1 92) <|
      nm (up2 s25 2 (Int32.toNatClampNeg a1) x12) fun s27 =>
      bv (f_Mod_remap s27) fun s29 =>
      some (x12, s29)) 100 (0 : Int32) s13) 100 (7 : Int32) s0
set_option maxRecDepth 100000 in
set_option maxHeartbeats 4000000 in
theorem c_Mod_take {l : Launch} {D : va_G} {K : Nat → ClassId} {q : Nat → Nat} {a1 : Int32} {s0 sE : tj_S} {rE : Int32} (h : f_Mod_take a1 s0 = some (rE, sE)) : tj_Mi l D tj_cls (M_tys K) tj_N tj_T (M_cw K q) y_Mod_take b_Mod_take 4 .int 2 46 [.ref (q 0), .int a1] s0 rE sE := by
  refine tj_start_i (by decide +kernel) (Nat.le_of_ble_eq_true rfl) (fun Γ C fin => ?_)
  show tj_W Γ (M_cw K q) s0 [(0, .ref (q 0)), (1, .int a1)] 0 []
  have L3 : ∀ (y2 : Int32) (k : Int32 → tj_S → Option (Int32 × tj_S)), (∀ (x10 : Int32) (s11 : tj_S), k x10 s11 = some (rE, sE) → tj_W Γ (M_cw K q) s11 [(0, .ref (q 0)), (1, .int y2), (2, .int x10)] 23 []) → ∀ (n : Nat) (x1 : Int32) (s3 : tj_S), f_Mod_take_L3 y2 k n x1 s3 = some (rE, sE) → tj_W Γ (M_cw K q) s3 [(0, .ref (q 0)), (1, .int y2), (2, .int x1)] 3 [] := by
    intro y2 k hk n
    induction n with
    | zero => intro x1 s3 h; rw [f_Mod_take_L3] at h; cases h
    | succ n ih =>
      intro x1 s3 h
      rw [f_Mod_take_L3] at h
      refine xw_iload_n C d_Mod_take_3 2 rfl ?_
      refine xw_bipush C d_Mod_take_4 (v := 23) (by decide) ?_
      refine xw_icmp_ge C d_Mod_take_6 (tgt := 23) (by decide) (fun hc9 => ?_) (fun hc9 => ?_)
      · replace h := it_t hc9 h
        exact xw_lv [0, 1, 2] rfl (hk _ _ h)
      · replace h := it_f hc9 h
        refine xw_aload_n C d_Mod_take_9 0 rfl ?_
        refine xw_iload_n C d_Mod_take_10 2 rfl ?_
        obtain ⟨r6, s5, hc4, h⟩ := bd_e h
        refine xw_callV_i C tj_Tg tj_Ng (n := 1) (As := [.int x1]) (rest := []) (c_Mod_open hc4) T_540 T_537 T_6 T_539 S_19 0 rfl rfl rfl (by decide +kernel) (by decide) rfl rfl (Nat.le_of_ble_eq_true rfl) d_Mod_take_11 ?_
        refine xw_if_ne C d_Mod_take_14 (tgt := 23) (by decide) (fun hc8 => ?_) (fun hc8 => ?_)
        · replace h := it_f hc8 h
          exact xw_lv [0, 1, 2] rfl (hk _ _ h)
        · replace h := it_t hc8 h
          refine xw_iinc C h (fun v => [(2, .int v), (0, .ref (q 0)), (1, .int y2)]) d_Mod_take_17 2 rfl (by decide) (fun _ => rfl) (fun x7 h => ?_)
          refine xw_goto C d_Mod_take_20 (tgt := 3) (by decide) ?_
          exact xw_lv [1, 2, 0] rfl (ih _ _ h)
  have L25 : ∀ (y15 y16 : Int32) (k : Int32 → tj_S → Option (Int32 × tj_S)), (∀ (x22 : Int32) (s23 : tj_S), k x22 s23 = some (rE, sE) → tj_W Γ (M_cw K q) s23 [(0, .ref (q 0)), (1, .int y15), (2, .int y16), (3, .int x22)] 47 []) → ∀ (n : Nat) (x14 : Int32) (s17 : tj_S), f_Mod_take_L25 y15 y16 k n x14 s17 = some (rE, sE) → tj_W Γ (M_cw K q) s17 [(0, .ref (q 0)), (1, .int y15), (2, .int y16), (3, .int x14)] 25 [] := by
    intro y15 y16 k hk n
    induction n with
    | zero => intro x14 s17 h; rw [f_Mod_take_L25] at h; cases h
    | succ n ih =>
      intro x14 s17 h
      rw [f_Mod_take_L25] at h
      refine xw_iload_n C d_Mod_take_25 3 rfl ?_
      refine xw_iconst C d_Mod_take_26 (v := 4) (by decide) ?_
      refine xw_icmp_ge C d_Mod_take_27 (tgt := 47) (by decide) (fun hc21 => ?_) (fun hc21 => ?_)
      · replace h := it_t hc21 h
        exact xw_lv [0, 1, 2, 3] rfl (hk _ _ h)
      · replace h := it_f hc21 h
        refine xw_aload_n C d_Mod_take_30 0 rfl ?_
        refine xw_get C F_Mod_ok 0 rfl rfl 1 (by decide) T_474 rfl d_Mod_take_31 ?_
        refine xw_iconst C d_Mod_take_34 (v := 4) (by decide) ?_
        refine xw_iload_n C d_Mod_take_35 2 rfl ?_
        refine xw_imul C d_Mod_take_36 ?_
        refine xw_iload_n C d_Mod_take_37 3 rfl ?_
        refine xw_iadd C d_Mod_take_38 ?_
        refine xw_iconst C d_Mod_take_39 (v := 0) (by decide) ?_
        obtain ⟨hb18, h⟩ := gd_e h
        refine xw_iast C 2 1 rfl rfl hb18 d_Mod_take_40 (σ1 := (up2 s17 2 (Int32.toNatClampNeg (((4 : Int32) * y16) + x14)) (0 : Int32))) rfl ?_
        refine xw_ns h (fun s19 h => ?_)
        refine xw_iinc C h (fun v => [(3, .int v), (0, .ref (q 0)), (1, .int y15), (2, .int y16)]) d_Mod_take_41 3 rfl (by decide) (fun _ => rfl) (fun x20 h => ?_)
        refine xw_goto C d_Mod_take_44 (tgt := 25) (by decide) ?_
        exact xw_lv [1, 2, 3, 0] rfl (ih _ _ h)
  unfold f_Mod_take at h
  refine xw_bipush C d_Mod_take_0 (v := 7) (by decide) ?_
  refine xw_istore_n C d_Mod_take_2 rfl (by decide) (lv1 := [(2, .int (7 : Int32)), (0, .ref (q 0)), (1, .int a1)]) rfl ?_
  refine xw_lv [1, 2, 0] rfl (L3 _ _ (fun x12 s13 h => ?_) 100 _ _ h)
  refine xw_iconst C d_Mod_take_23 (v := 0) (by decide) ?_
  refine xw_istore_n C d_Mod_take_24 rfl (by decide) (lv1 := [(3, .int (0 : Int32)), (0, .ref (q 0)), (1, .int a1), (2, .int x12)]) rfl ?_
  refine xw_lv [1, 2, 3, 0] rfl (L25 _ _ _ (fun x24 s25 h => ?_) 100 _ _ h)
  refine xw_aload_n C d_Mod_take_47 0 rfl ?_
  refine xw_get C F_Mod_ok 0 rfl rfl 1 (by decide) T_474 rfl d_Mod_take_48 ?_
  refine xw_iload_n C d_Mod_take_51 1 rfl ?_
  refine xw_iload_n C d_Mod_take_52 2 rfl ?_
  obtain ⟨hb26, h⟩ := gd_e h
  refine xw_iast C 2 1 rfl rfl hb26 d_Mod_take_53 (σ1 := (up2 s25 2 (Int32.toNatClampNeg a1) x12)) rfl ?_
  refine xw_ns h (fun s27 h => ?_)
  refine xw_aload_n C d_Mod_take_54 0 rfl ?_
  obtain ⟨s29, hc28, h⟩ := bv_e h
  refine xw_callV_v C tj_Tg tj_Ng (n := 0) (As := []) (rest := []) (c_Mod_remap hc28) T_604 T_601 T_6 T_603 S_35 0 rfl rfl rfl (by decide +kernel) (by decide) rfl rfl (Nat.le_of_ble_eq_true rfl) d_Mod_take_55 ?_
  refine xw_iload_n C d_Mod_take_58 2 rfl ?_
  exact fin _ _ _ _ h d_Mod_take_59 rfl
