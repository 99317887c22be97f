def f_X_checkpoint (a1 : Int32) (s0 : tj_S) : Option (Int32 × tj_S) :=
  if (s0 1 0) = (0 : Int32) then
    some ((-1 : Int32), s0)
  else
    if (1 : Int32) ≤ a1 then
      nm ((s0 1 2)) fun x1 =>
      bd (f_Disk_checkpointOldest (if (s0 4 6) < a1 then (s0 4 6) else a1) s0) fun r4 s3 =>
      if r4 = (0 : Int32) then
        some ((-2 : Int32), s3)
      else
        some (((s3 1 2) - x1), s3)
    else
      some ((-1 : Int32), s0)
set_option maxRecDepth 100000 in
set_option maxHeartbeats 4000000 in
theorem c_X_checkpoint {l : Launch} {D : va_G} {K : Nat → ClassId} {q : Nat → Nat} {a1 : Int32} {s0 sE : tj_S} {rE : Int32} (h : f_X_checkpoint a1 s0 = some (rE, sE)) : tj_Mi l D tj_cls (X_tys K) tj_N tj_T (X_cw K q) y_X_checkpoint b_X_checkpoint 3 .int 4 108 [.ref (q 0), .int a1] s0 rE sE := by
  refine tj_start_i (by decide +kernel) (Nat.le_of_ble_eq_true rfl) (fun Γ C fin => ?_)
  show tj_W Γ (X_cw K q) s0 [(0, .ref (q 0)), (1, .int a1)] 0 []
  unfold f_X_checkpoint at h
  refine xw_aload_n C d_X_checkpoint_0 0 rfl ?_
  refine xw_get C F_X_ok 0 rfl rfl 0 (by decide) T_122 rfl d_X_checkpoint_1 ?_
  refine xw_getN C F_Power_ok 1 rfl rfl 0 (by decide) "ThreeModeJournal" N_31 rfl d_X_checkpoint_4 ?_
  refine xw_if_eq C d_X_checkpoint_7 (tgt := 15) (by decide) (fun hc7 => ?_) (fun hc7 => ?_)
  · replace h := it_t hc7 h
    refine xw_iconst C d_X_checkpoint_15 (v := -1) (by decide) ?_
    exact fin _ _ _ _ h d_X_checkpoint_16 rfl
  · replace h := it_f hc7 h
    refine xw_iload_n C d_X_checkpoint_10 1 rfl ?_
    refine xw_iconst C d_X_checkpoint_11 (v := 1) (by decide) ?_
    refine xw_icmp_ge C d_X_checkpoint_12 (tgt := 17) (by decide) (fun hc6 => ?_) (fun hc6 => ?_)
    · replace h := it_t hc6 h
      refine xw_aload_n C d_X_checkpoint_17 0 rfl ?_
      refine xw_get C F_X_ok 0 rfl rfl 0 (by decide) T_122 rfl d_X_checkpoint_18 ?_
      refine xw_getN C F_Power_ok 1 rfl rfl 2 (by decide) "ThreeModeJournal" N_35 rfl d_X_checkpoint_21 ?_
      refine xw_ni h (fun x1 h => ?_)
      refine xw_istore_n C d_X_checkpoint_24 rfl (by decide) (lv1 := [(2, .int x1), (0, .ref (q 0)), (1, .int a1)]) rfl ?_
      refine xw_aload_n C d_X_checkpoint_25 1 rfl ?_
      refine xw_get C F_X_ok 0 rfl rfl 1 (by decide) T_123 rfl d_X_checkpoint_26 ?_
      refine xw_iload_n C d_X_checkpoint_29 2 rfl ?_
      refine xw_aload_n C d_X_checkpoint_30 1 rfl ?_
      refine xw_get C F_X_ok 0 rfl rfl 1 (by decide) T_123 rfl d_X_checkpoint_31 ?_
      refine xw_getN C F_Disk_ok 2 rfl rfl 2 (by decide) "ThreeModeJournal" N_84 rfl d_X_checkpoint_34 ?_
      refine xw_getN C F_Log_ok 4 rfl rfl 6 (by decide) "ThreeModeJournal" N_58 rfl d_X_checkpoint_37 ?_
      refine xw_min C T_401 T_402 T_9 T_403 (by decide) (Nat.le_of_ble_eq_true rfl) d_X_checkpoint_40 ?_
      obtain ⟨r4, s3, hc2, h⟩ := bd_e h
      refine xw_callV_i C tj_Tg tj_Ng (n := 1) (As := [.int (if (s0 4 6) < a1 then (s0 4 6) else a1)]) (rest := []) (c_Disk_checkpointOldest hc2) T_240 T_237 T_2 T_238 T_239 2 rfl rfl rfl (by decide +kernel) (by decide) rfl rfl (Nat.le_of_ble_eq_true rfl) d_X_checkpoint_43 ?_
      refine xw_if_eq C d_X_checkpoint_46 (tgt := 61) (by decide) (fun hc5 => ?_) (fun hc5 => ?_)
      · replace h := it_t hc5 h
        refine xw_bipush C d_X_checkpoint_61 (v := -2) (by decide) ?_
        exact fin _ _ _ _ h d_X_checkpoint_63 rfl
      · replace h := it_f hc5 h
        refine xw_aload_n C d_X_checkpoint_49 1 rfl ?_
        refine xw_get C F_X_ok 0 rfl rfl 0 (by decide) T_122 rfl d_X_checkpoint_50 ?_
        refine xw_getN C F_Power_ok 1 rfl rfl 2 (by decide) "ThreeModeJournal" N_35 rfl d_X_checkpoint_53 ?_
        refine xw_iload_n C d_X_checkpoint_56 0 rfl ?_
        refine xw_isub C d_X_checkpoint_57 ?_
        refine xw_goto C d_X_checkpoint_58 (tgt := 63) (by decide) ?_
        exact fin _ _ _ _ h d_X_checkpoint_63 rfl
    · replace h := it_f hc6 h
      refine xw_iconst C d_X_checkpoint_15 (v := -1) (by decide) ?_
      exact fin _ _ _ _ h d_X_checkpoint_16 rfl
def f_X_fuse (a1 : Int32) (s0 : tj_S) : Option (tj_S) :=
  if (0 : Int32) ≤ a1 then
    nm (up2 s0 1 1 a1) fun s1 =>
    some s1
  else
    nm (up2 s0 1 1 (-1 : Int32)) fun s2 =>
    some s2
set_option maxRecDepth 100000 in
set_option maxHeartbeats 4000000 in
theorem c_X_fuse {l : Launch} {D : va_G} {K : Nat → ClassId} {q : Nat → Nat} {a1 : Int32} {s0 sE : tj_S} (h : f_X_fuse a1 s0 = some sE) : tj_Mv l D tj_cls (X_tys K) tj_N tj_T (X_cw K q) y_X_fuse b_X_fuse 2 0 0 [.ref (q 0), .int a1] s0 sE := by
  refine tj_start_v (by decide +kernel) (Nat.le_of_ble_eq_true rfl) (fun Γ C fin => ?_)
  show tj_W Γ (X_cw K q) s0 [(0, .ref (q 0)), (1, .int a1)] 0 []
  unfold f_X_fuse at h
  refine xw_aload_n C d_X_fuse_0 0 rfl ?_
  refine xw_get C F_X_ok 0 rfl rfl 0 (by decide) T_122 rfl d_X_fuse_1 ?_
  refine xw_iload_n C d_X_fuse_4 1 rfl ?_
  refine xw_if_ge C d_X_fuse_5 (tgt := 12) (by decide) (fun hc3 => ?_) (fun hc3 => ?_)
  · replace h := it_t hc3 h
    refine xw_iload_n C d_X_fuse_12 1 rfl ?_
    refine xw_putN C F_Power_ok 1 rfl rfl 1 (by decide) "ThreeModeJournal" N_33 rfl rfl rfl (Nat.le_of_ble_eq_true rfl) d_X_fuse_13 (σ1 := (up2 s0 1 1 a1)) rfl ?_
    refine xw_ns h (fun s1 h => ?_)
    exact fin _ _ _ h d_X_fuse_16
  · replace h := it_f hc3 h
    refine xw_iconst C d_X_fuse_8 (v := -1) (by decide) ?_
    refine xw_goto C d_X_fuse_9 (tgt := 13) (by decide) ?_
    refine xw_putN C F_Power_ok 1 rfl rfl 1 (by decide) "ThreeModeJournal" N_33 rfl rfl rfl (Nat.le_of_ble_eq_true rfl) d_X_fuse_13 (σ1 := (up2 s0 1 1 (-1 : Int32))) rfl ?_
    refine xw_ns h (fun s2 h => ?_)
    exact fin _ _ _ h d_X_fuse_16
def f_X_crash (s0 : tj_S) : Option (Int32 × tj_S) :=
  if (s0 1 0) = (0 : Int32) then
    some ((0 : Int32), s0)
  else
    nm (up2 s0 1 0 (0 : Int32)) fun s1 =>
    nm (up2 s1 1 1 (-1 : Int32)) fun s2 =>
    some ((1 : Int32), s2)
set_option maxRecDepth 100000 in
set_option maxHeartbeats 4000000 in
theorem c_X_crash {l : Launch} {D : va_G} {K : Nat → ClassId} {q : Nat → Nat} {s0 sE : tj_S} {rE : Int32} (h : f_X_crash s0 = some (rE, sE)) : tj_Mi l D tj_cls (X_tys K) tj_N tj_T (X_cw K q) y_X_crash b_X_crash 1 .boolean 0 0 [.ref (q 0)] s0 rE sE := by
  refine tj_start_i (by decide +kernel) (Nat.le_of_ble_eq_true rfl) (fun Γ C fin => ?_)
  show tj_W Γ (X_cw K q) s0 [(0, .ref (q 0))] 0 []
  unfold f_X_crash at h
  refine xw_aload_n C d_X_crash_0 0 rfl ?_
  refine xw_get C F_X_ok 0 rfl rfl 0 (by decide) T_122 rfl d_X_crash_1 ?_
  refine xw_getN C F_Power_ok 1 rfl rfl 0 (by decide) "ThreeModeJournal" N_31 rfl d_X_crash_4 ?_
  refine xw_if_ne C d_X_crash_7 (tgt := 12) (by decide) (fun hc3 => ?_) (fun hc3 => ?_)
  · replace h := it_f hc3 h
    refine xw_aload_n C d_X_crash_12 0 rfl ?_
    refine xw_get C F_X_ok 0 rfl rfl 0 (by decide) T_122 rfl d_X_crash_13 ?_
    refine xw_iconst C d_X_crash_16 (v := 0) (by decide) ?_
    refine xw_putN C F_Power_ok 1 rfl rfl 0 (by decide) "ThreeModeJournal" N_31 rfl rfl rfl (Nat.le_of_ble_eq_true rfl) d_X_crash_17 (σ1 := (up2 s0 1 0 (0 : Int32))) rfl ?_
    refine xw_ns h (fun s1 h => ?_)
    refine xw_aload_n C d_X_crash_20 0 rfl ?_
    refine xw_get C F_X_ok 0 rfl rfl 0 (by decide) T_122 rfl d_X_crash_21 ?_
    refine xw_iconst C d_X_crash_24 (v := -1) (by decide) ?_
    refine xw_putN C F_Power_ok 1 rfl rfl 1 (by decide) "ThreeModeJournal" N_33 rfl rfl rfl (Nat.le_of_ble_eq_true rfl) d_X_crash_25 (σ1 := (up2 s1 1 1 (-1 : Int32))) rfl ?_
    refine xw_ns h (fun s2 h => ?_)
    refine xw_iconst C d_X_crash_28 (v := 1) (by decide) ?_
    exact fin _ _ _ _ h d_X_crash_29 rfl
  · replace h := it_t hc3 h
    refine xw_iconst C d_X_crash_10 (v := 0) (by decide) ?_
    exact fin _ _ _ _ h d_X_crash_11 rfl
def f_Log_copiesToRecover (a1 : Int32) (s0 : tj_S) : Option (Int32 × tj_S) :=
  bd (f_Log_slot a1 s0) fun r3 s2 =>
  gd (inb r3 8) <|
  bd (f_Log_unionBehind_9 a1 s2) fun r7 s6 =>
  some (((s2 8 (Int32.toNatClampNeg r3)) &&& (r7 ^^^ (-1 : Int32))), s6)
set_option maxRecDepth 100000 in
set_option maxHeartbeats 4000000 in
theorem c_Log_copiesToRecover {l : Launch} {D : va_G} {K : Nat → ClassId} {q : Nat → Nat} {a1 : Int32} {s0 sE : tj_S} {rE : Int32} (h : f_Log_copiesToRecover a1 s0 = some (rE, sE)) : tj_Mi l D tj_cls (X_tys K) tj_N tj_T (X_cw K q) y_Log_copiesToRecover b_Log_copiesToRecover 2 .int 2 45 [.ref (q 4), .int a1] s0 rE sE := by
  refine tj_start_i (by decide +kernel) (Nat.le_of_ble_eq_true rfl) (fun Γ C fin => ?_)
  show tj_W Γ (X_cw K q) s0 [(0, .ref (q 4)), (1, .int a1)] 0 []
  unfold f_Log_copiesToRecover at h
  refine xw_aload_n C d_Log_copiesToRecover_0 0 rfl ?_
  refine xw_get C F_Log_ok 4 rfl rfl 3 (by decide) T_53 rfl d_Log_copiesToRecover_1 ?_
  refine xw_aload_n C d_Log_copiesToRecover_4 0 rfl ?_
  refine xw_iload_n C d_Log_copiesToRecover_5 1 rfl ?_
  obtain ⟨r3, s2, hc1, h⟩ := bd_e h
  refine xw_callV_i C tj_Tg tj_Ng (n := 1) (As := [.int a1]) (rest := [.ref (q 8)]) (c_Log_slot hc1) T_236 T_233 T_4 T_235 S_7 4 rfl rfl rfl (by decide +kernel) (by decide) rfl rfl (Nat.le_of_ble_eq_true rfl) d_Log_copiesToRecover_6 ?_
  obtain ⟨hb4, h⟩ := gd_e h
  refine xw_iald C 8 4 rfl rfl hb4 d_Log_copiesToRecover_9 ?_
  refine xw_aload_n C d_Log_copiesToRecover_10 0 rfl ?_
  refine xw_iload_n C d_Log_copiesToRecover_11 1 rfl ?_
  refine xw_aload_n C d_Log_copiesToRecover_12 0 rfl ?_
  refine xw_get C F_Log_ok 4 rfl rfl 4 (by decide) T_54 rfl d_Log_copiesToRecover_13 ?_
  obtain ⟨r7, s6, hc5, h⟩ := bd_e h
  refine xw_callV_i C tj_Tg tj_Ng (n := 2) (As := [.int a1, .ref (q 9)]) (rest := [.int (s2 8 (Int32.toNatClampNeg r3))]) (c_Log_unionBehind_9 hc5) T_248 T_245 T_4 T_247 S_8 4 rfl rfl rfl (by decide +kernel) (by decide) rfl rfl (Nat.le_of_ble_eq_true rfl) d_Log_copiesToRecover_16 ?_
  refine xw_iconst C d_Log_copiesToRecover_19 (v := -1) (by decide) ?_
  refine xw_ixor C d_Log_copiesToRecover_20 ?_
  refine xw_iand C d_Log_copiesToRecover_21 ?_
  exact fin _ _ _ _ h d_Log_copiesToRecover_22 rfl
def f_Disk_recover_L2 (k : Int32 → tj_S → Option (Int32 × tj_S)) : Nat → Int32 → tj_S → Option (Int32 × tj_S)
  | 0, _, _ => none
  | n + 1, x1, s2 =>
    if (s2 4 6) ≤ x1 then
      k x1 s2
    else
      bd (f_Log_copiesToRecover x1 s2) fun r5 s4 =>
      bd (f_Disk_writeCopiesHome x1 r5 s4) fun r8 s7 =>
      if r8 = (0 : Int32) then
        some ((0 : Int32), s7)
      else
        nm (x1 + Int32.ofInt 1) fun x9 =>
        f_Disk_recover_L2 k n x9 s7
def f_Disk_recover (s0 : tj_S) : Option (Int32 × tj_S) :=
  f_Disk_recover_L2 (fun x14 s15 =>
    bd (f_Disk_dropOldest (s15 4 6) s15) fun r18 s17 =>
    gd (isb r18) <|
    some (r18, s17)) 100 (0 : Int32) s0
set_option maxRecDepth 100000 in
set_option maxHeartbeats 4000000 in
theorem c_Disk_recover {l : Launch} {D : va_G} {K : Nat → ClassId} {q : Nat → Nat} {s0 sE : tj_S} {rE : Int32} (h : f_Disk_recover s0 = some (rE, sE)) : tj_Mi l D tj_cls (X_tys K) tj_N tj_T (X_cw K q) y_Disk_recover b_Disk_recover 2 .boolean 3 86 [.ref (q 2)] s0 rE sE := by
  refine tj_start_i (by decide +kernel) (Nat.le_of_ble_eq_true rfl) (fun Γ C fin => ?_)
  show tj_W Γ (X_cw K q) s0 [(0, .ref (q 2))] 0 []
  have L2 : ∀ (k : Int32 → tj_S → Option (Int32 × tj_S)), (∀ (x12 : Int32) (s13 : tj_S), k x12 s13 = some (rE, sE) → tj_W Γ (X_cw K q) s13 [(0, .ref (q 2)), (1, .int x12)] 37 []) → ∀ (n : Nat) (x1 : Int32) (s2 : tj_S), f_Disk_recover_L2 k n x1 s2 = some (rE, sE) → tj_W Γ (X_cw K q) s2 [(0, .ref (q 2)), (1, .int x1)] 2 [] := by
    intro k hk n
    induction n with
    | zero => intro x1 s2 h; rw [f_Disk_recover_L2] at h; cases h
    | succ n ih =>
      intro x1 s2 h
      rw [f_Disk_recover_L2] at h
      refine xw_iload_n C d_Disk_recover_2 1 rfl ?_
      refine xw_aload_n C d_Disk_recover_3 0 rfl ?_
      refine xw_get C F_Disk_ok 2 rfl rfl 2 (by decide) T_83 rfl d_Disk_recover_4 ?_
      refine xw_getN C F_Log_ok 4 rfl rfl 6 (by decide) "ThreeModeJournal" N_57 rfl d_Disk_recover_7 ?_
      refine xw_icmp_ge C d_Disk_recover_10 (tgt := 37) (by decide) (fun hc11 => ?_) (fun hc11 => ?_)
      · replace h := it_t hc11 h
        exact xw_lv [0, 1] rfl (hk _ _ h)
      · replace h := it_f hc11 h
        refine xw_aload_n C d_Disk_recover_13 0 rfl ?_
        refine xw_iload_n C d_Disk_recover_14 1 rfl ?_
        refine xw_aload_n C d_Disk_recover_15 0 rfl ?_
        refine xw_get C F_Disk_ok 2 rfl rfl 2 (by decide) T_83 rfl d_Disk_recover_16 ?_
        refine xw_iload_n C d_Disk_recover_19 1 rfl ?_
        obtain ⟨r5, s4, hc3, h⟩ := bd_e h
        refine xw_callV_i C tj_Tg tj_Ng (n := 1) (As := [.int x1]) (rest := [.int x1, .ref (q 2)]) (c_Log_copiesToRecover hc3) T_427 T_424 T_4 T_425 T_426 4 rfl rfl rfl (by decide +kernel) (by decide) rfl rfl (Nat.le_of_ble_eq_true rfl) d_Disk_recover_20 ?_
        obtain ⟨r8, s7, hc6, h⟩ := bd_e h
        refine xw_callV_i C tj_Tg tj_Ng (n := 2) (As := [.int x1, .int r5]) (rest := []) (c_Disk_writeCopiesHome hc6) T_252 T_249 T_2 T_251 S_9 2 rfl rfl rfl (by decide +kernel) (by decide) rfl rfl (Nat.le_of_ble_eq_true rfl) d_Disk_recover_23 ?_
        refine xw_if_ne C d_Disk_recover_26 (tgt := 31) (by decide) (fun hc10 => ?_) (fun hc10 => ?_)
        · replace h := it_f hc10 h
          refine xw_iinc C h (fun v => [(1, .int v), (0, .ref (q 2))]) d_Disk_recover_31 1 rfl (by decide) (fun _ => rfl) (fun x9 h => ?_)
          refine xw_goto C d_Disk_recover_34 (tgt := 2) (by decide) ?_
          exact xw_lv [1, 0] rfl (ih _ _ h)
        · replace h := it_t hc10 h
          refine xw_iconst C d_Disk_recover_29 (v := 0) (by decide) ?_
          exact fin _ _ _ _ h d_Disk_recover_30 rfl
  unfold f_Disk_recover at h
  refine xw_iconst C d_Disk_recover_0 (v := 0) (by decide) ?_
  refine xw_istore_n C d_Disk_recover_1 rfl (by decide) (lv1 := [(1, .int (0 : Int32)), (0, .ref (q 2))]) rfl ?_
  refine xw_lv [1, 0] rfl (L2 _ (fun x14 s15 h => ?_) 100 _ _ h)
  refine xw_aload_n C d_Disk_recover_37 0 rfl ?_
  refine xw_aload_n C d_Disk_recover_38 0 rfl ?_
  refine xw_get C F_Disk_ok 2 rfl rfl 2 (by decide) T_83 rfl d_Disk_recover_39 ?_
  refine xw_getN C F_Log_ok 4 rfl rfl 6 (by decide) "ThreeModeJournal" N_57 rfl d_Disk_recover_42 ?_
  obtain ⟨r18, s17, hc16, h⟩ := bd_e h
  refine xw_callV_i C tj_Tg tj_Ng (n := 1) (As := [.int (s15 4 6)]) (rest := []) (c_Disk_dropOldest hc16) T_266 T_263 T_2 T_265 S_10 2 rfl rfl rfl (by decide +kernel) (by decide) rfl rfl (Nat.le_of_ble_eq_true rfl) d_Disk_recover_45 ?_
  obtain ⟨hb19, h⟩ := gd_e h
  exact fin _ _ _ _ h d_Disk_recover_48 (isb_n hb19)
def f_Mem_load_3 (s0 : tj_S) : Option (tj_S) :=
  gd (cpb (0 : Int32) (0 : Int32) (92 : Int32) 92 92) <|
  nm (st2 s0 11 (va_cpy (s0 3) (s0 11) (Int32.toNatClampNeg (0 : Int32)) (Int32.toNatClampNeg (0 : Int32)) (Int32.toNatClampNeg (92 : Int32)))) fun s2 =>
  nm (up2 s2 10 2 (0 : Int32)) fun s3 =>
  bv (f_Mem_startTransaction s3) fun s5 =>
  some s5
set_option maxRecDepth 100000 in
set_option maxHeartbeats 4000000 in
theorem c_Mem_load_3 {l : Launch} {D : va_G} {K : Nat → ClassId} {q : Nat → Nat} {s0 sE : tj_S} (h : f_Mem_load_3 s0 = some sE) : tj_Mv l D tj_cls (X_tys K) tj_N tj_T (X_cw K q) y_Mem_load b_Mem_load 2 2 40 [.ref (q 10), .ref (q 3)] s0 sE := by
  refine tj_start_v (by decide +kernel) (Nat.le_of_ble_eq_true rfl) (fun Γ C fin => ?_)
  show tj_W Γ (X_cw K q) s0 [(0, .ref (q 10)), (1, .ref (q 3))] 0 []
  unfold f_Mem_load_3 at h
  refine xw_aload_n C d_Mem_load_0 1 rfl ?_
  refine xw_iconst C d_Mem_load_1 (v := 0) (by decide) ?_
  refine xw_aload_n C d_Mem_load_2 0 rfl ?_
  refine xw_get C F_Mem_ok 10 rfl rfl 0 (by decide) T_98 rfl d_Mem_load_3 ?_
  refine xw_iconst C d_Mem_load_6 (v := 0) (by decide) ?_
  refine xw_aload_n C d_Mem_load_7 0 rfl ?_
  refine xw_get C F_Mem_ok 10 rfl rfl 0 (by decide) T_98 rfl d_Mem_load_8 ?_
  refine xw_alen C 11 6 rfl rfl (v := 92) rfl d_Mem_load_11 ?_
  obtain ⟨hb1, h⟩ := gd_e h
  refine xw_copy C T_224 T_215 T_214 T_8 3 11 0 6 rfl rfl rfl rfl hb1 (by decide) (Nat.le_of_ble_eq_true rfl) d_Mem_load_12 (σ1 := (st2 s0 11 (va_cpy (s0 3) (s0 11) (Int32.toNatClampNeg (0 : Int32)) (Int32.toNatClampNeg (0 : Int32)) (Int32.toNatClampNeg (92 : Int32))))) rfl ?_
  refine xw_ns h (fun s2 h => ?_)
  refine xw_aload_n C d_Mem_load_15 0 rfl ?_
  refine xw_iconst C d_Mem_load_16 (v := 0) (by decide) ?_
  refine xw_put C F_Mem_ok 10 rfl rfl 2 (by decide) T_102 rfl rfl rfl (Nat.le_of_ble_eq_true rfl) d_Mem_load_17 (σ1 := (up2 s2 10 2 (0 : Int32))) rfl ?_
  refine xw_ns h (fun s3 h => ?_)
  refine xw_aload_n C d_Mem_load_20 0 rfl ?_
  obtain ⟨s5, hc4, h⟩ := bv_e h
  refine xw_callV_v C tj_Tg tj_Ng (n := 0) (As := []) (rest := []) (c_Mem_startTransaction hc4) T_285 T_432 T_5 T_283 T_284 10 rfl rfl rfl (by decide +kernel) (by decide) rfl rfl (Nat.le_of_ble_eq_true rfl) d_Mem_load_21 ?_
  exact fin _ _ _ h d_Mem_load_24
def f_X_mount (a1 : Int32) (s0 : tj_S) : Option (Int32 × tj_S) :=
  if (s0 1 0) = (0 : Int32) then
    if a1 < (0 : Int32) then
      some ((-1 : Int32), s0)
    else
      if a1 ≤ (2 : Int32) then
        nm ((s0 4 6)) fun x1 =>
        bd (f_Disk_recover s0) fun r4 s3 =>
        if r4 = (0 : Int32) then
          some ((-2 : Int32), s3)
        else
          bv (f_Mem_load_3 s3) fun s6 =>
          nm (up2 s6 0 3 a1) fun s7 =>
          nm (up2 s7 1 0 (1 : Int32)) fun s8 =>
          some (x1, s8)
      else
        some ((-1 : Int32), s0)
  else
    some ((-1 : Int32), s0)
set_option maxRecDepth 100000 in
set_option maxHeartbeats 4000000 in
theorem c_X_mount {l : Launch} {D : va_G} {K : Nat → ClassId} {q : Nat → Nat} {a1 : Int32} {s0 sE : tj_S} {rE : Int32} (h : f_X_mount a1 s0 = some (rE, sE)) : tj_Mi l D tj_cls (X_tys K) tj_N tj_T (X_cw K q) y_X_mount b_X_mount 3 .int 4 107 [.ref (q 0), .int a1] s0 rE sE := by
  refine tj_start_i (by decide +kernel) (Nat.le_of_ble_eq_true rfl) (fun Γ C fin => ?_)
  show tj_W Γ (X_cw K q) s0 [(0, .ref (q 0)), (1, .int a1)] 0 []
  unfold f_X_mount at h
  refine xw_aload_n C d_X_mount_0 0 rfl ?_
  refine xw_get C F_X_ok 0 rfl rfl 0 (by decide) T_122 rfl d_X_mount_1 ?_
  refine xw_getN C F_Power_ok 1 rfl rfl 0 (by decide) "ThreeModeJournal" N_31 rfl d_X_mount_4 ?_
  refine xw_if_ne C d_X_mount_7 (tgt := 19) (by decide) (fun hc12 => ?_) (fun hc12 => ?_)
  · replace h := it_f hc12 h
    refine xw_iconst C d_X_mount_19 (v := -1) (by decide) ?_
    exact fin _ _ _ _ h d_X_mount_20 rfl
  · replace h := it_t hc12 h
    refine xw_iload_n C d_X_mount_10 1 rfl ?_
    refine xw_if_lt C d_X_mount_11 (tgt := 19) (by decide) (fun hc11 => ?_) (fun hc11 => ?_)
    · replace h := it_t hc11 h
      refine xw_iconst C d_X_mount_19 (v := -1) (by decide) ?_
      exact fin _ _ _ _ h d_X_mount_20 rfl
    · replace h := it_f hc11 h
      refine xw_iload_n C d_X_mount_14 1 rfl ?_
      refine xw_iconst C d_X_mount_15 (v := 2) (by decide) ?_
      refine xw_icmp_le C d_X_mount_16 (tgt := 21) (by decide) (fun hc10 => ?_) (fun hc10 => ?_)
      · replace h := it_t hc10 h
        refine xw_aload_n C d_X_mount_21 0 rfl ?_
        refine xw_get C F_X_ok 0 rfl rfl 1 (by decide) T_123 rfl d_X_mount_22 ?_
        refine xw_getN C F_Disk_ok 2 rfl rfl 2 (by decide) "ThreeModeJournal" N_84 rfl d_X_mount_25 ?_
        refine xw_getN C F_Log_ok 4 rfl rfl 6 (by decide) "ThreeModeJournal" N_58 rfl d_X_mount_28 ?_
        refine xw_ni h (fun x1 h => ?_)
        refine xw_istore_n C d_X_mount_31 rfl (by decide) (lv1 := [(2, .int x1), (0, .ref (q 0)), (1, .int a1)]) rfl ?_
        refine xw_aload_n C d_X_mount_32 1 rfl ?_
        refine xw_get C F_X_ok 0 rfl rfl 1 (by decide) T_123 rfl d_X_mount_33 ?_
        obtain ⟨r4, s3, hc2, h⟩ := bd_e h
        refine xw_callV_i C tj_Tg tj_Ng (n := 0) (As := []) (rest := []) (c_Disk_recover hc2) T_423 T_420 T_2 T_421 T_422 2 rfl rfl rfl (by decide +kernel) (by decide) rfl rfl (Nat.le_of_ble_eq_true rfl) d_X_mount_36 ?_
        refine xw_if_ne C d_X_mount_39 (tgt := 45) (by decide) (fun hc9 => ?_) (fun hc9 => ?_)
        · replace h := it_f hc9 h
          refine xw_aload_n C d_X_mount_45 1 rfl ?_
          refine xw_get C F_X_ok 0 rfl rfl 2 (by decide) T_124 rfl d_X_mount_46 ?_
          refine xw_aload_n C d_X_mount_49 1 rfl ?_
          refine xw_get C F_X_ok 0 rfl rfl 1 (by decide) T_123 rfl d_X_mount_50 ?_
          refine xw_getN C F_Disk_ok 2 rfl rfl 1 (by decide) "ThreeModeJournal" N_82 rfl d_X_mount_53 ?_
          obtain ⟨s6, hc5, h⟩ := bv_e h
          refine xw_callV_v C tj_Tg tj_Ng (n := 1) (As := [.ref (q 3)]) (rest := []) (c_Mem_load_3 hc5) T_431 T_428 T_5 T_429 T_430 10 rfl rfl rfl (by decide +kernel) (by decide) rfl rfl (Nat.le_of_ble_eq_true rfl) d_X_mount_56 ?_
          refine xw_aload_n C d_X_mount_59 1 rfl ?_
          refine xw_iload_n C d_X_mount_60 2 rfl ?_
          refine xw_put C F_X_ok 0 rfl rfl 3 (by decide) T_125 rfl rfl rfl (Nat.le_of_ble_eq_true rfl) d_X_mount_61 (σ1 := (up2 s6 0 3 a1)) rfl ?_
          refine xw_ns h (fun s7 h => ?_)
          refine xw_aload_n C d_X_mount_64 1 rfl ?_
          refine xw_get C F_X_ok 0 rfl rfl 0 (by decide) T_122 rfl d_X_mount_65 ?_
          refine xw_iconst C d_X_mount_68 (v := 1) (by decide) ?_
          refine xw_putN C F_Power_ok 1 rfl rfl 0 (by decide) "ThreeModeJournal" N_31 rfl rfl rfl (Nat.le_of_ble_eq_true rfl) d_X_mount_69 (σ1 := (up2 s7 1 0 (1 : Int32))) rfl ?_
          refine xw_ns h (fun s8 h => ?_)
          refine xw_iload_n C d_X_mount_72 0 rfl ?_
          exact fin _ _ _ _ h d_X_mount_73 rfl
        · replace h := it_t hc9 h
          refine xw_bipush C d_X_mount_42 (v := -2) (by decide) ?_
          exact fin _ _ _ _ h d_X_mount_44 rfl
      · replace h := it_f hc10 h
        refine xw_iconst C d_X_mount_19 (v := -1) (by decide) ?_
        exact fin _ _ _ _ h d_X_mount_20 rfl
def f_X_mode (s0 : tj_S) : Option (Int32 × tj_S) :=
  if (s0 1 0) = (0 : Int32) then
    some ((-1 : Int32), s0)
  else
    some ((s0 0 3), s0)
set_option maxRecDepth 100000 in
set_option maxHeartbeats 4000000 in
theorem c_X_mode {l : Launch} {D : va_G} {K : Nat → ClassId} {q : Nat → Nat} {s0 sE : tj_S} {rE : Int32} (h : f_X_mode s0 = some (rE, sE)) : tj_Mi l D tj_cls (X_tys K) tj_N tj_T (X_cw K q) y_X_mode b_X_mode 1 .int 0 0 [.ref (q 0)] s0 rE sE := by
  refine tj_start_i (by decide +kernel) (Nat.le_of_ble_eq_true rfl) (fun Γ C fin => ?_)
  show tj_W Γ (X_cw K q) s0 [(0, .ref (q 0))] 0 []
  unfold f_X_mode at h
  refine xw_aload_n C d_X_mode_0 0 rfl ?_
  refine xw_get C F_X_ok 0 rfl rfl 0 (by decide) T_122 rfl d_X_mode_1 ?_
  refine xw_getN C F_Power_ok 1 rfl rfl 0 (by decide) "ThreeModeJournal" N_31 rfl d_X_mode_4 ?_
  refine xw_if_eq C d_X_mode_7 (tgt := 17) (by decide) (fun hc1 => ?_) (fun hc1 => ?_)
  · replace h := it_t hc1 h
    refine xw_iconst C d_X_mode_17 (v := -1) (by decide) ?_
    exact fin _ _ _ _ h d_X_mode_18 rfl
  · replace h := it_f hc1 h
    refine xw_aload_n C d_X_mode_10 0 rfl ?_
    refine xw_get C F_X_ok 0 rfl rfl 3 (by decide) T_125 rfl d_X_mode_11 ?_
    refine xw_goto C d_X_mode_14 (tgt := 18) (by decide) ?_
    exact fin _ _ _ _ h d_X_mode_18 rfl
def f_X_home (a1 a2 : Int32) (s0 : tj_S) : Option (Int32 × tj_S) :=
  bd (f_X_isWord a1 a2 s0) fun r3 s2 =>
  if r3 = (0 : Int32) then
    some ((0 : Int32), s2)
  else
    gd (inb ((a1 * (4 : Int32)) + a2) 92) <|
    some ((s2 3 (Int32.toNatClampNeg ((a1 * (4 : Int32)) + a2))), s2)
set_option maxRecDepth 100000 in
set_option maxHeartbeats 4000000 in
theorem c_X_home {l : Launch} {D : va_G} {K : Nat → ClassId} {q : Nat → Nat} {a1 a2 : Int32} {s0 sE : tj_S} {rE : Int32} (h : f_X_home a1 a2 s0 = some (rE, sE)) : tj_Mi l D tj_cls (X_tys K) tj_N tj_T (X_cw K q) y_X_home b_X_home 3 .int 1 21 [.ref (q 0), .int a1, .int a2] s0 rE sE := by
  refine tj_start_i (by decide +kernel) (Nat.le_of_ble_eq_true rfl) (fun Γ C fin => ?_)
  show tj_W Γ (X_cw K q) s0 [(0, .ref (q 0)), (1, .int a1), (2, .int a2)] 0 []
  unfold f_X_home at h
  refine xw_iload_n C d_X_home_0 1 rfl ?_
  refine xw_iload_n C d_X_home_1 2 rfl ?_
  obtain ⟨r3, s2, hc1, h⟩ := bd_e h
  refine xw_callS_i C tj_Tg tj_Ng (n := 2) (As := [.int a1, .int a2]) (rest := []) (c_X_isWord hc1) T_152 T_441 T_1 T_151 (by decide +kernel) (by decide) rfl rfl (Nat.le_of_ble_eq_true rfl) d_X_home_2 ?_
  refine xw_if_eq C d_X_home_5 (tgt := 24) (by decide) (fun hc5 => ?_) (fun hc5 => ?_)
  · replace h := it_t hc5 h
    refine xw_iconst C d_X_home_24 (v := 0) (by decide) ?_
    exact fin _ _ _ _ h d_X_home_25 rfl
  · replace h := it_f hc5 h
    refine xw_aload_n C d_X_home_8 0 rfl ?_
    refine xw_get C F_X_ok 0 rfl rfl 1 (by decide) T_123 rfl d_X_home_9 ?_
    refine xw_getN C F_Disk_ok 2 rfl rfl 1 (by decide) "ThreeModeJournal" N_82 rfl d_X_home_12 ?_
    refine xw_iload_n C d_X_home_15 1 rfl ?_
    refine xw_iconst C d_X_home_16 (v := 4) (by decide) ?_
    refine xw_imul C d_X_home_17 ?_
    refine xw_iload_n C d_X_home_18 2 rfl ?_
    refine xw_iadd C d_X_home_19 ?_
    obtain ⟨hb4, h⟩ := gd_e h
    refine xw_iald C 3 0 rfl rfl hb4 d_X_home_20 ?_
    refine xw_goto C d_X_home_21 (tgt := 25) (by decide) ?_
    exact fin _ _ _ _ h d_X_home_25 rfl
def f_X_need (s0 : tj_S) : Option (Int32 × tj_S) :=
  if (s0 1 0) = (0 : Int32) then
    some ((-1 : Int32), s0)
  else
    bd (f_Mem_logBlocksNeeded s0) fun r3 s2 =>
    some (r3, s2)
set_option maxRecDepth 100000 in
set_option maxHeartbeats 4000000 in
theorem c_X_need {l : Launch} {D : va_G} {K : Nat → ClassId} {q : Nat → Nat} {s0 sE : tj_S} {rE : Int32} (h : f_X_need s0 = some (rE, sE)) : tj_Mi l D tj_cls (X_tys K) tj_N tj_T (X_cw K q) y_X_need b_X_need 1 .int 2 41 [.ref (q 0)] s0 rE sE := by
  refine tj_start_i (by decide +kernel) (Nat.le_of_ble_eq_true rfl) (fun Γ C fin => ?_)
  show tj_W Γ (X_cw K q) s0 [(0, .ref (q 0))] 0 []
  unfold f_X_need at h
  refine xw_aload_n C d_X_need_0 0 rfl ?_
  refine xw_get C F_X_ok 0 rfl rfl 0 (by decide) T_122 rfl d_X_need_1 ?_
  refine xw_getN C F_Power_ok 1 rfl rfl 0 (by decide) "ThreeModeJournal" N_31 rfl d_X_need_4 ?_
  refine xw_if_eq C d_X_need_7 (tgt := 20) (by decide) (fun hc4 => ?_) (fun hc4 => ?_)
  · replace h := it_t hc4 h
    refine xw_iconst C d_X_need_20 (v := -1) (by decide) ?_
    exact fin _ _ _ _ h d_X_need_21 rfl
  · replace h := it_f hc4 h
    refine xw_aload_n C d_X_need_10 0 rfl ?_
    refine xw_get C F_X_ok 0 rfl rfl 2 (by decide) T_124 rfl d_X_need_11 ?_
    obtain ⟨r3, s2, hc1, h⟩ := bd_e h
    refine xw_callV_i C tj_Tg tj_Ng (n := 0) (As := []) (rest := []) (c_Mem_logBlocksNeeded hc1) T_182 T_179 T_5 T_180 T_181 10 rfl rfl rfl (by decide +kernel) (by decide) rfl rfl (Nat.le_of_ble_eq_true rfl) d_X_need_14 ?_
    refine xw_goto C d_X_need_17 (tgt := 21) (by decide) ?_
    exact fin _ _ _ _ h d_X_need_21 rfl
def f_X_room (s0 : tj_S) : Option (Int32 × tj_S) :=
  if (s0 1 0) = (0 : Int32) then
    some ((-1 : Int32), s0)
  else
    bd (f_Log_freePlaces s0) fun r3 s2 =>
    some (r3, s2)
set_option maxRecDepth 100000 in
set_option maxHeartbeats 4000000 in
theorem c_X_room {l : Launch} {D : va_G} {K : Nat → ClassId} {q : Nat → Nat} {s0 sE : tj_S} {rE : Int32} (h : f_X_room s0 = some (rE, sE)) : tj_Mi l D tj_cls (X_tys K) tj_N tj_T (X_cw K q) y_X_room b_X_room 1 .int 2 43 [.ref (q 0)] s0 rE sE := by
  refine tj_start_i (by decide +kernel) (Nat.le_of_ble_eq_true rfl) (fun Γ C fin => ?_)
  show tj_W Γ (X_cw K q) s0 [(0, .ref (q 0))] 0 []
  unfold f_X_room at h
  refine xw_aload_n C d_X_room_0 0 rfl ?_
  refine xw_get C F_X_ok 0 rfl rfl 0 (by decide) T_122 rfl d_X_room_1 ?_
  refine xw_getN C F_Power_ok 1 rfl rfl 0 (by decide) "ThreeModeJournal" N_31 rfl d_X_room_4 ?_
  refine xw_if_eq C d_X_room_7 (tgt := 23) (by decide) (fun hc4 => ?_) (fun hc4 => ?_)
  · replace h := it_t hc4 h
    refine xw_iconst C d_X_room_23 (v := -1) (by decide) ?_
    exact fin _ _ _ _ h d_X_room_24 rfl
  · replace h := it_f hc4 h
    refine xw_aload_n C d_X_room_10 0 rfl ?_
    refine xw_get C F_X_ok 0 rfl rfl 1 (by decide) T_123 rfl d_X_room_11 ?_
    refine xw_getN C F_Disk_ok 2 rfl rfl 2 (by decide) "ThreeModeJournal" N_84 rfl d_X_room_14 ?_
    obtain ⟨r3, s2, hc1, h⟩ := bd_e h
    refine xw_callV_i C tj_Tg tj_Ng (n := 0) (As := []) (rest := []) (c_Log_freePlaces hc1) T_232 T_450 T_4 T_230 T_231 4 rfl rfl rfl (by decide +kernel) (by decide) rfl rfl (Nat.le_of_ble_eq_true rfl) d_X_room_17 ?_
    refine xw_goto C d_X_room_20 (tgt := 24) (by decide) ?_
    exact fin _ _ _ _ h d_X_room_24 rfl
def f_X_head (s0 : tj_S) : Option (Int32 × tj_S) :=
  if (s0 1 0) = (0 : Int32) then
    some ((-1 : Int32), s0)
  else
    some ((s0 4 7), s0)
set_option maxRecDepth 100000 in
set_option maxHeartbeats 4000000 in
theorem c_X_head {l : Launch} {D : va_G} {K : Nat → ClassId} {q : Nat → Nat} {s0 sE : tj_S} {rE : Int32} (h : f_X_head s0 = some (rE, sE)) : tj_Mi l D tj_cls (X_tys K) tj_N tj_T (X_cw K q) y_X_head b_X_head 1 .int 0 0 [.ref (q 0)] s0 rE sE := by
  refine tj_start_i (by decide +kernel) (Nat.le_of_ble_eq_true rfl) (fun Γ C fin => ?_)
  show tj_W Γ (X_cw K q) s0 [(0, .ref (q 0))] 0 []
  unfold f_X_head at h
  refine xw_aload_n C d_X_head_0 0 rfl ?_
  refine xw_get C F_X_ok 0 rfl rfl 0 (by decide) T_122 rfl d_X_head_1 ?_
  refine xw_getN C F_Power_ok 1 rfl rfl 0 (by decide) "ThreeModeJournal" N_31 rfl d_X_head_4 ?_
  refine xw_if_eq C d_X_head_7 (tgt := 23) (by decide) (fun hc1 => ?_) (fun hc1 => ?_)
  · replace h := it_t hc1 h
    refine xw_iconst C d_X_head_23 (v := -1) (by decide) ?_
    exact fin _ _ _ _ h d_X_head_24 rfl
  · replace h := it_f hc1 h
    refine xw_aload_n C d_X_head_10 0 rfl ?_
    refine xw_get C F_X_ok 0 rfl rfl 1 (by decide) T_123 rfl d_X_head_11 ?_
    refine xw_getN C F_Disk_ok 2 rfl rfl 2 (by decide) "ThreeModeJournal" N_84 rfl d_X_head_14 ?_
    refine xw_getN C F_Log_ok 4 rfl rfl 7 (by decide) "ThreeModeJournal" N_60 rfl d_X_head_17 ?_
    refine xw_goto C d_X_head_20 (tgt := 24) (by decide) ?_
    exact fin _ _ _ _ h d_X_head_24 rfl
def f_X_dirty (s0 : tj_S) : Option (Int32 × tj_S) :=
  if (s0 1 0) = (0 : Int32) then
    some ((-1 : Int32), s0)
  else
    some ((s0 10 2), s0)
set_option maxRecDepth 100000 in
set_option maxHeartbeats 4000000 in
theorem c_X_dirty {l : Launch} {D : va_G} {K : Nat → ClassId} {q : Nat → Nat} {s0 sE : tj_S} {rE : Int32} (h : f_X_dirty s0 = some (rE, sE)) : tj_Mi l D tj_cls (X_tys K) tj_N tj_T (X_cw K q) y_X_dirty b_X_dirty 1 .int 0 0 [.ref (q 0)] s0 rE sE := by
  refine tj_start_i (by decide +kernel) (Nat.le_of_ble_eq_true rfl) (fun Γ C fin => ?_)
  show tj_W Γ (X_cw K q) s0 [(0, .ref (q 0))] 0 []
  unfold f_X_dirty at h
  refine xw_aload_n C d_X_dirty_0 0 rfl ?_
  refine xw_get C F_X_ok 0 rfl rfl 0 (by decide) T_122 rfl d_X_dirty_1 ?_
  refine xw_getN C F_Power_ok 1 rfl rfl 0 (by decide) "ThreeModeJournal" N_31 rfl d_X_dirty_4 ?_
  refine xw_if_eq C d_X_dirty_7 (tgt := 20) (by decide) (fun hc1 => ?_) (fun hc1 => ?_)
  · replace h := it_t hc1 h
    refine xw_iconst C d_X_dirty_20 (v := -1) (by decide) ?_
    exact fin _ _ _ _ h d_X_dirty_21 rfl
  · replace h := it_f hc1 h
    refine xw_aload_n C d_X_dirty_10 0 rfl ?_
    refine xw_get C F_X_ok 0 rfl rfl 2 (by decide) T_124 rfl d_X_dirty_11 ?_
    refine xw_getN C F_Mem_ok 10 rfl rfl 2 (by decide) "ThreeModeJournal" N_103 rfl d_X_dirty_14 ?_
    refine xw_goto C d_X_dirty_17 (tgt := 21) (by decide) ?_
    exact fin _ _ _ _ h d_X_dirty_21 rfl
def f_X_free (s0 : tj_S) : Option (Int32 × tj_S) :=
  if (s0 1 0) = (0 : Int32) then
    some ((-1 : Int32), s0)
  else
    bd (f_Mem_takeableCount s0) fun r3 s2 =>
    some (r3, s2)
set_option maxRecDepth 100000 in
set_option maxHeartbeats 4000000 in
theorem c_X_free {l : Launch} {D : va_G} {K : Nat → ClassId} {q : Nat → Nat} {s0 sE : tj_S} {rE : Int32} (h : f_X_free s0 = some (rE, sE)) : tj_Mi l D tj_cls (X_tys K) tj_N tj_T (X_cw K q) y_X_free b_X_free 1 .int 3 60 [.ref (q 0)] s0 rE sE := by
  refine tj_start_i (by decide +kernel) (Nat.le_of_ble_eq_true rfl) (fun Γ C fin => ?_)
  show tj_W Γ (X_cw K q) s0 [(0, .ref (q 0))] 0 []
  unfold f_X_free at h
  refine xw_aload_n C d_X_free_0 0 rfl ?_
  refine xw_get C F_X_ok 0 rfl rfl 0 (by decide) T_122 rfl d_X_free_1 ?_
  refine xw_getN C F_Power_ok 1 rfl rfl 0 (by decide) "ThreeModeJournal" N_31 rfl d_X_free_4 ?_
  refine xw_if_eq C d_X_free_7 (tgt := 20) (by decide) (fun hc4 => ?_) (fun hc4 => ?_)
  · replace h := it_t hc4 h
    refine xw_iconst C d_X_free_20 (v := -1) (by decide) ?_
    exact fin _ _ _ _ h d_X_free_21 rfl
  · replace h := it_f hc4 h
    refine xw_aload_n C d_X_free_10 0 rfl ?_
    refine xw_get C F_X_ok 0 rfl rfl 2 (by decide) T_124 rfl d_X_free_11 ?_
    obtain ⟨r3, s2, hc1, h⟩ := bd_e h
    refine xw_callV_i C tj_Tg tj_Ng (n := 0) (As := []) (rest := []) (c_Mem_takeableCount hc1) T_159 T_156 T_5 T_157 T_158 10 rfl rfl rfl (by decide +kernel) (by decide) rfl rfl (Nat.le_of_ble_eq_true rfl) d_X_free_14 ?_
    refine xw_goto C d_X_free_17 (tgt := 21) (by decide) ?_
    exact fin _ _ _ _ h d_X_free_21 rfl
def f_X_writes (s0 : tj_S) : Option (Int32 × tj_S) :=
  some ((s0 1 2), s0)
set_option maxRecDepth 100000 in
set_option maxHeartbeats 4000000 in
theorem c_X_writes {l : Launch} {D : va_G} {K : Nat → ClassId} {q : Nat → Nat} {s0 sE : tj_S} {rE : Int32} (h : f_X_writes s0 = some (rE, sE)) : tj_Mi l D tj_cls (X_tys K) tj_N tj_T (X_cw K q) y_X_writes b_X_writes 1 .int 0 0 [.ref (q 0)] s0 rE sE := by
  refine tj_start_i (by decide +kernel) (Nat.le_of_ble_eq_true rfl) (fun Γ C fin => ?_)
  show tj_W Γ (X_cw K q) s0 [(0, .ref (q 0))] 0 []
  unfold f_X_writes at h
  refine xw_aload_n C d_X_writes_0 0 rfl ?_
  refine xw_get C F_X_ok 0 rfl rfl 0 (by decide) T_122 rfl d_X_writes_1 ?_
  refine xw_getN C F_Power_ok 1 rfl rfl 2 (by decide) "ThreeModeJournal" N_35 rfl d_X_writes_4 ?_
  exact fin _ _ _ _ h d_X_writes_7 rfl
