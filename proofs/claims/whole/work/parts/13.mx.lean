def f_X_freeIndex (a1 : Int32) (s0 : tj_S) : Option (tj_S) :=
  bd (f_Mem_word a1 (3 : Int32) s0) fun r3 s2 =>
  bv (f_Mem_freeBlock r3 s2) fun s5 =>
  bv (f_Mem_setWord a1 (3 : Int32) (0 : Int32) s5) fun s7 =>
  if (s7 0 3) = (2 : Int32) then
    some s7
  else
    bd (f_Log_hasLiveCopy r3 s7) fun r10 s9 =>
    if r10 = (0 : Int32) then
      some s9
    else
      bv (f_Mem_revoke r3 s9) fun s12 =>
      some s12
set_option maxRecDepth 100000 in
set_option maxHeartbeats 4000000 in
theorem c_X_freeIndex {l : Launch} {D : va_G} {K : Nat → ClassId} {q : Nat → Nat} {a1 : Int32} {s0 sE : tj_S} (h : f_X_freeIndex a1 s0 = some sE) : tj_Mv l D tj_cls (X_tys K) tj_N tj_T (X_cw K q) y_X_freeIndex b_X_freeIndex 3 4 88 [.ref (q 0), .int a1] s0 sE := by
  refine tj_start_v (by decide +kernel) (Nat.le_of_ble_eq_true rfl) (fun Γ C fin => ?_)
  show tj_W Γ (X_cw K q) s0 [(0, .ref (q 0)), (1, .int a1)] 0 []
  unfold f_X_freeIndex at h
  refine xw_aload_n C d_X_freeIndex_0 0 rfl ?_
  refine xw_get C F_X_ok 0 rfl rfl 2 (by decide) T_124 rfl d_X_freeIndex_1 ?_
  refine xw_iload_n C d_X_freeIndex_4 1 rfl ?_
  refine xw_iconst C d_X_freeIndex_5 (v := 3) (by decide) ?_
  obtain ⟨r3, s2, hc1, h⟩ := bd_e h
  refine xw_callV_i C tj_Tg tj_Ng (n := 2) (As := [.int a1, .int (3 : Int32)]) (rest := []) (c_Mem_word hc1) T_149 T_352 T_5 T_147 T_148 10 rfl rfl rfl (by decide +kernel) (by decide) rfl rfl (Nat.le_of_ble_eq_true rfl) d_X_freeIndex_6 ?_
  refine xw_istore_n C d_X_freeIndex_9 rfl (by decide) (lv1 := [(2, .int r3), (0, .ref (q 0)), (1, .int a1)]) rfl ?_
  refine xw_aload_n C d_X_freeIndex_10 1 rfl ?_
  refine xw_get C F_X_ok 0 rfl rfl 2 (by decide) T_124 rfl d_X_freeIndex_11 ?_
  refine xw_iload_n C d_X_freeIndex_14 0 rfl ?_
  obtain ⟨s5, hc4, h⟩ := bv_e h
  refine xw_callV_v C tj_Tg tj_Ng (n := 1) (As := [.int r3]) (rest := []) (c_Mem_freeBlock hc4) T_346 T_343 T_5 T_344 T_345 10 rfl rfl rfl (by decide +kernel) (by decide) rfl rfl (Nat.le_of_ble_eq_true rfl) d_X_freeIndex_15 ?_
  refine xw_aload_n C d_X_freeIndex_18 1 rfl ?_
  refine xw_get C F_X_ok 0 rfl rfl 2 (by decide) T_124 rfl d_X_freeIndex_19 ?_
  refine xw_iload_n C d_X_freeIndex_22 2 rfl ?_
  refine xw_iconst C d_X_freeIndex_23 (v := 3) (by decide) ?_
  refine xw_iconst C d_X_freeIndex_24 (v := 0) (by decide) ?_
  obtain ⟨s7, hc6, h⟩ := bv_e h
  refine xw_callV_v C tj_Tg tj_Ng (n := 3) (As := [.int a1, .int (3 : Int32), .int (0 : Int32)]) (rest := []) (c_Mem_setWord hc6) T_301 T_311 T_5 T_299 T_300 10 rfl rfl rfl (by decide +kernel) (by decide) rfl rfl (Nat.le_of_ble_eq_true rfl) d_X_freeIndex_25 ?_
  refine xw_aload_n C d_X_freeIndex_28 1 rfl ?_
  refine xw_get C F_X_ok 0 rfl rfl 3 (by decide) T_125 rfl d_X_freeIndex_29 ?_
  refine xw_iconst C d_X_freeIndex_32 (v := 2) (by decide) ?_
  refine xw_icmp_eq C d_X_freeIndex_33 (tgt := 58) (by decide) (fun hc14 => ?_) (fun hc14 => ?_)
  · replace h := it_t hc14 h
    exact fin _ _ _ h d_X_freeIndex_58
  · replace h := it_f hc14 h
    refine xw_aload_n C d_X_freeIndex_36 1 rfl ?_
    refine xw_get C F_X_ok 0 rfl rfl 1 (by decide) T_123 rfl d_X_freeIndex_37 ?_
    refine xw_getN C F_Disk_ok 2 rfl rfl 2 (by decide) "ThreeModeJournal" N_84 rfl d_X_freeIndex_40 ?_
    refine xw_iload_n C d_X_freeIndex_43 0 rfl ?_
    obtain ⟨r10, s9, hc8, h⟩ := bd_e h
    refine xw_callV_i C tj_Tg tj_Ng (n := 1) (As := [.int r3]) (rest := []) (c_Log_hasLiveCopy hc8) T_356 T_353 T_4 T_354 T_355 4 rfl rfl rfl (by decide +kernel) (by decide) rfl rfl (Nat.le_of_ble_eq_true rfl) d_X_freeIndex_44 ?_
    refine xw_if_eq C d_X_freeIndex_47 (tgt := 58) (by decide) (fun hc13 => ?_) (fun hc13 => ?_)
    · replace h := it_t hc13 h
      exact fin _ _ _ h d_X_freeIndex_58
    · replace h := it_f hc13 h
      refine xw_aload_n C d_X_freeIndex_50 1 rfl ?_
      refine xw_get C F_X_ok 0 rfl rfl 2 (by decide) T_124 rfl d_X_freeIndex_51 ?_
      refine xw_iload_n C d_X_freeIndex_54 0 rfl ?_
      obtain ⟨s12, hc11, h⟩ := bv_e h
      refine xw_callV_v C tj_Tg tj_Ng (n := 1) (As := [.int r3]) (rest := []) (c_Mem_revoke hc11) T_361 T_358 T_5 T_359 T_360 10 rfl rfl rfl (by decide +kernel) (by decide) rfl rfl (Nat.le_of_ble_eq_true rfl) d_X_freeIndex_55 ?_
      exact fin _ _ _ h d_X_freeIndex_58
def f_X_shorten_L22 (y11 y12 y13 y14 : Int32) (k : Int32 → tj_S → Option (tj_S)) : Nat → Int32 → tj_S → Option (tj_S)
  | 0, _, _ => none
  | n + 1, x10, s15 =>
    if y13 ≤ x10 then
      k x10 s15
    else
      if (6 : Int32) ≤ x10 then
        k x10 s15
      else
        bd (f_Mem_dataBlock y11 x10 s15) fun r18 s17 =>
        bv (f_Mem_freeBlock r18 s17) fun s20 =>
        bv (f_Mem_putDataBlock y11 x10 (0 : Int32) s20) fun s22 =>
        nm (x10 + Int32.ofInt 1) fun x23 =>
        f_X_shorten_L22 y11 y12 y13 y14 k n x23 s22
def f_X_shorten (a1 a2 : Int32) (s0 : tj_S) : Option (tj_S) :=
  bd (f_Mem_fileLength a1 s0) fun r3 s2 =>
  bd (f_X_dataBlocksFor r3 s2) fun r6 s5 =>
  bd (f_X_dataBlocksFor a2 s5) fun r9 s8 =>
  f_X_shorten_L22 a1 a2 r6 r9 (fun x28 s29 =>
    if r6 ≤ (2 : Int32) then
      bv (f_Mem_setWord a1 (0 : Int32) a2 s29) fun s31 =>
      bv (f_Mem_join a1 s31) fun s33 =>
      some s33
    else
      if (2 : Int32) < r9 then
        bv (f_Mem_setWord a1 (0 : Int32) a2 s29) fun s35 =>
        bv (f_Mem_join a1 s35) fun s37 =>
        some s37
      else
        bv (f_X_freeIndex a1 s29) fun s39 =>
        bv (f_Mem_setWord a1 (0 : Int32) a2 s39) fun s41 =>
        bv (f_Mem_join a1 s41) fun s43 =>
        some s43) 100 r9 s8
set_option maxRecDepth 100000 in
set_option maxHeartbeats 4000000 in
theorem c_X_shorten {l : Launch} {D : va_G} {K : Nat → ClassId} {q : Nat → Nat} {a1 a2 : Int32} {s0 sE : tj_S} (h : f_X_shorten a1 a2 s0 = some sE) : tj_Mv l D tj_cls (X_tys K) tj_N tj_T (X_cw K q) y_X_shorten b_X_shorten 6 5 110 [.ref (q 0), .int a1, .int a2] s0 sE := by
  refine tj_start_v (by decide +kernel) (Nat.le_of_ble_eq_true rfl) (fun Γ C fin => ?_)
  show tj_W Γ (X_cw K q) s0 [(0, .ref (q 0)), (1, .int a1), (2, .int a2)] 0 []
  have L22 : ∀ (y11 y12 y13 y14 : Int32) (k : Int32 → tj_S → Option (tj_S)), (∀ (x26 : Int32) (s27 : tj_S), k x26 s27 = some sE → tj_W Γ (X_cw K q) s27 [(0, .ref (q 0)), (1, .int y11), (2, .int y12), (3, .int y13), (4, .int y14), (5, .int x26)] 69 []) → ∀ (n : Nat) (x10 : Int32) (s15 : tj_S), f_X_shorten_L22 y11 y12 y13 y14 k n x10 s15 = some sE → tj_W Γ (X_cw K q) s15 [(0, .ref (q 0)), (1, .int y11), (2, .int y12), (3, .int y13), (4, .int y14), (5, .int x10)] 22 [] := by
    intro y11 y12 y13 y14 k hk n
    induction n with
    | zero => intro x10 s15 h; rw [f_X_shorten_L22] at h; cases h
    | succ n ih =>
      intro x10 s15 h
      rw [f_X_shorten_L22] at h
      refine xw_iload C d_X_shorten_22 5 rfl ?_
      refine xw_iload_n C d_X_shorten_24 3 rfl ?_
      refine xw_icmp_ge C d_X_shorten_25 (tgt := 69) (by decide) (fun hc25 => ?_) (fun hc25 => ?_)
      · replace h := it_t hc25 h
        exact xw_lv [0, 1, 2, 3, 4, 5] rfl (hk _ _ h)
      · replace h := it_f hc25 h
        refine xw_iload C d_X_shorten_28 5 rfl ?_
        refine xw_bipush C d_X_shorten_30 (v := 6) (by decide) ?_
        refine xw_icmp_ge C d_X_shorten_32 (tgt := 69) (by decide) (fun hc24 => ?_) (fun hc24 => ?_)
        · replace h := it_t hc24 h
          exact xw_lv [0, 1, 2, 3, 4, 5] rfl (hk _ _ h)
        · replace h := it_f hc24 h
          refine xw_aload_n C d_X_shorten_35 0 rfl ?_
          refine xw_get C F_X_ok 0 rfl rfl 2 (by decide) T_124 rfl d_X_shorten_36 ?_
          refine xw_aload_n C d_X_shorten_39 0 rfl ?_
          refine xw_get C F_X_ok 0 rfl rfl 2 (by decide) T_124 rfl d_X_shorten_40 ?_
          refine xw_iload_n C d_X_shorten_43 1 rfl ?_
          refine xw_iload C d_X_shorten_44 5 rfl ?_
          obtain ⟨r18, s17, hc16, h⟩ := bd_e h
          refine xw_callV_i C tj_Tg tj_Ng (n := 2) (As := [.int y11, .int x10]) (rest := [.ref (q 10)]) (c_Mem_dataBlock hc16) T_324 T_321 T_5 T_322 T_323 10 rfl rfl rfl (by decide +kernel) (by decide) rfl rfl (Nat.le_of_ble_eq_true rfl) d_X_shorten_46 ?_
          obtain ⟨s20, hc19, h⟩ := bv_e h
          refine xw_callV_v C tj_Tg tj_Ng (n := 1) (As := [.int r18]) (rest := []) (c_Mem_freeBlock hc19) T_346 T_343 T_5 T_344 T_345 10 rfl rfl rfl (by decide +kernel) (by decide) rfl rfl (Nat.le_of_ble_eq_true rfl) d_X_shorten_49 ?_
          refine xw_aload_n C d_X_shorten_52 0 rfl ?_
          refine xw_get C F_X_ok 0 rfl rfl 2 (by decide) T_124 rfl d_X_shorten_53 ?_
          refine xw_iload_n C d_X_shorten_56 1 rfl ?_
          refine xw_iload C d_X_shorten_57 5 rfl ?_
          refine xw_iconst C d_X_shorten_59 (v := 0) (by decide) ?_
          obtain ⟨s22, hc21, h⟩ := bv_e h
          refine xw_callV_v C tj_Tg tj_Ng (n := 3) (As := [.int y11, .int x10, .int (0 : Int32)]) (rest := []) (c_Mem_putDataBlock hc21) T_315 T_312 T_5 T_313 T_314 10 rfl rfl rfl (by decide +kernel) (by decide) rfl rfl (Nat.le_of_ble_eq_true rfl) d_X_shorten_60 ?_
          refine xw_iinc C h (fun v => [(5, .int v), (0, .ref (q 0)), (1, .int y11), (2, .int y12), (3, .int y13), (4, .int y14)]) d_X_shorten_63 5 rfl (by decide) (fun _ => rfl) (fun x23 h => ?_)
          refine xw_goto C d_X_shorten_66 (tgt := 22) (by decide) ?_
          exact xw_lv [1, 2, 3, 4, 5, 0] rfl (ih _ _ h)
  unfold f_X_shorten at h
  refine xw_aload_n C d_X_shorten_0 0 rfl ?_
  refine xw_get C F_X_ok 0 rfl rfl 2 (by decide) T_124 rfl d_X_shorten_1 ?_
  refine xw_iload_n C d_X_shorten_4 1 rfl ?_
  obtain ⟨r3, s2, hc1, h⟩ := bd_e h
  refine xw_callV_i C tj_Tg tj_Ng (n := 1) (As := [.int a1]) (rest := []) (c_Mem_fileLength hc1) T_145 T_142 T_5 T_143 T_144 10 rfl rfl rfl (by decide +kernel) (by decide) rfl rfl (Nat.le_of_ble_eq_true rfl) d_X_shorten_5 ?_
  obtain ⟨r6, s5, hc4, h⟩ := bd_e h
  refine xw_callS_i C tj_Tg tj_Ng (n := 1) (As := [.int r3]) (rest := []) (c_X_dataBlocksFor hc4) T_342 T_340 T_1 T_341 (by decide +kernel) (by decide) rfl rfl (Nat.le_of_ble_eq_true rfl) d_X_shorten_8 ?_
  refine xw_istore_n C d_X_shorten_11 rfl (by decide) (lv1 := [(3, .int r6), (0, .ref (q 0)), (1, .int a1), (2, .int a2)]) rfl ?_
  refine xw_iload_n C d_X_shorten_12 3 rfl ?_
  obtain ⟨r9, s8, hc7, h⟩ := bd_e h
  refine xw_callS_i C tj_Tg tj_Ng (n := 1) (As := [.int a2]) (rest := []) (c_X_dataBlocksFor hc7) T_342 T_340 T_1 T_341 (by decide +kernel) (by decide) rfl rfl (Nat.le_of_ble_eq_true rfl) d_X_shorten_13 ?_
  refine xw_istore C d_X_shorten_16 (by decide) (lv1 := [(4, .int r9), (3, .int r6), (0, .ref (q 0)), (1, .int a1), (2, .int a2)]) rfl ?_
  refine xw_iload C d_X_shorten_18 0 rfl ?_
  refine xw_istore C d_X_shorten_20 (by decide) (lv1 := [(5, .int r9), (4, .int r9), (3, .int r6), (0, .ref (q 0)), (1, .int a1), (2, .int a2)]) rfl ?_
  refine xw_lv [3, 4, 5, 2, 1, 0] rfl (L22 _ _ _ _ _ (fun x28 s29 h => ?_) 100 _ _ h)
  refine xw_iload_n C d_X_shorten_69 3 rfl ?_
  refine xw_iconst C d_X_shorten_70 (v := 2) (by decide) ?_
  refine xw_icmp_le C d_X_shorten_71 (tgt := 85) (by decide) (fun hc45 => ?_) (fun hc45 => ?_)
  · replace h := it_t hc45 h
    refine xw_aload_n C d_X_shorten_85 0 rfl ?_
    refine xw_get C F_X_ok 0 rfl rfl 2 (by decide) T_124 rfl d_X_shorten_86 ?_
    refine xw_iload_n C d_X_shorten_89 1 rfl ?_
    refine xw_iconst C d_X_shorten_90 (v := 0) (by decide) ?_
    refine xw_iload_n C d_X_shorten_91 2 rfl ?_
    obtain ⟨s31, hc30, h⟩ := bv_e h
    refine xw_callV_v C tj_Tg tj_Ng (n := 3) (As := [.int a1, .int (0 : Int32), .int a2]) (rest := []) (c_Mem_setWord hc30) T_301 T_311 T_5 T_299 T_300 10 rfl rfl rfl (by decide +kernel) (by decide) rfl rfl (Nat.le_of_ble_eq_true rfl) d_X_shorten_92 ?_
    refine xw_aload_n C d_X_shorten_95 0 rfl ?_
    refine xw_get C F_X_ok 0 rfl rfl 2 (by decide) T_124 rfl d_X_shorten_96 ?_
    refine xw_iload_n C d_X_shorten_99 1 rfl ?_
    obtain ⟨s33, hc32, h⟩ := bv_e h
    refine xw_callV_v C tj_Tg tj_Ng (n := 1) (As := [.int a1]) (rest := []) (c_Mem_join hc32) T_305 T_316 T_5 T_303 T_304 10 rfl rfl rfl (by decide +kernel) (by decide) rfl rfl (Nat.le_of_ble_eq_true rfl) d_X_shorten_100 ?_
    exact fin _ _ _ h d_X_shorten_103
  · replace h := it_f hc45 h
    refine xw_iload C d_X_shorten_74 4 rfl ?_
    refine xw_iconst C d_X_shorten_76 (v := 2) (by decide) ?_
    refine xw_icmp_gt C d_X_shorten_77 (tgt := 85) (by decide) (fun hc44 => ?_) (fun hc44 => ?_)
    · replace h := it_t hc44 h
      refine xw_aload_n C d_X_shorten_85 0 rfl ?_
      refine xw_get C F_X_ok 0 rfl rfl 2 (by decide) T_124 rfl d_X_shorten_86 ?_
      refine xw_iload_n C d_X_shorten_89 1 rfl ?_
      refine xw_iconst C d_X_shorten_90 (v := 0) (by decide) ?_
      refine xw_iload_n C d_X_shorten_91 2 rfl ?_
      obtain ⟨s35, hc34, h⟩ := bv_e h
      refine xw_callV_v C tj_Tg tj_Ng (n := 3) (As := [.int a1, .int (0 : Int32), .int a2]) (rest := []) (c_Mem_setWord hc34) T_301 T_311 T_5 T_299 T_300 10 rfl rfl rfl (by decide +kernel) (by decide) rfl rfl (Nat.le_of_ble_eq_true rfl) d_X_shorten_92 ?_
      refine xw_aload_n C d_X_shorten_95 0 rfl ?_
      refine xw_get C F_X_ok 0 rfl rfl 2 (by decide) T_124 rfl d_X_shorten_96 ?_
      refine xw_iload_n C d_X_shorten_99 1 rfl ?_
      obtain ⟨s37, hc36, h⟩ := bv_e h
      refine xw_callV_v C tj_Tg tj_Ng (n := 1) (As := [.int a1]) (rest := []) (c_Mem_join hc36) T_305 T_316 T_5 T_303 T_304 10 rfl rfl rfl (by decide +kernel) (by decide) rfl rfl (Nat.le_of_ble_eq_true rfl) d_X_shorten_100 ?_
      exact fin _ _ _ h d_X_shorten_103
    · replace h := it_f hc44 h
      refine xw_aload_n C d_X_shorten_80 0 rfl ?_
      refine xw_iload_n C d_X_shorten_81 1 rfl ?_
      obtain ⟨s39, hc38, h⟩ := bv_e h
      refine xw_callV_v C tj_Tg tj_Ng (n := 1) (As := [.int a1]) (rest := []) (c_X_freeIndex hc38) T_351 T_348 T_1 T_350 S_16 0 rfl rfl rfl (by decide +kernel) (by decide) rfl rfl (Nat.le_of_ble_eq_true rfl) d_X_shorten_82 ?_
      refine xw_aload_n C d_X_shorten_85 0 rfl ?_
      refine xw_get C F_X_ok 0 rfl rfl 2 (by decide) T_124 rfl d_X_shorten_86 ?_
      refine xw_iload_n C d_X_shorten_89 1 rfl ?_
      refine xw_iconst C d_X_shorten_90 (v := 0) (by decide) ?_
      refine xw_iload_n C d_X_shorten_91 2 rfl ?_
      obtain ⟨s41, hc40, h⟩ := bv_e h
      refine xw_callV_v C tj_Tg tj_Ng (n := 3) (As := [.int a1, .int (0 : Int32), .int a2]) (rest := []) (c_Mem_setWord hc40) T_301 T_311 T_5 T_299 T_300 10 rfl rfl rfl (by decide +kernel) (by decide) rfl rfl (Nat.le_of_ble_eq_true rfl) d_X_shorten_92 ?_
      refine xw_aload_n C d_X_shorten_95 0 rfl ?_
      refine xw_get C F_X_ok 0 rfl rfl 2 (by decide) T_124 rfl d_X_shorten_96 ?_
      refine xw_iload_n C d_X_shorten_99 1 rfl ?_
      obtain ⟨s43, hc42, h⟩ := bv_e h
      refine xw_callV_v C tj_Tg tj_Ng (n := 1) (As := [.int a1]) (rest := []) (c_Mem_join hc42) T_305 T_316 T_5 T_303 T_304 10 rfl rfl rfl (by decide +kernel) (by decide) rfl rfl (Nat.le_of_ble_eq_true rfl) d_X_shorten_100 ?_
      exact fin _ _ _ h d_X_shorten_103
def f_X_cut (a1 a2 : Int32) (s0 : tj_S) : Option (Int32 × tj_S) :=
  if (s0 1 0) = (0 : Int32) then
    some ((0 : Int32), s0)
  else
    bd (f_X_isFile a1 s0) fun r3 s2 =>
    if r3 = (0 : Int32) then
      some ((0 : Int32), s2)
    else
      if a2 < (0 : Int32) then
        some ((0 : Int32), s2)
      else
        bd (f_Mem_fileLength a1 s2) fun r6 s5 =>
        if a2 < r6 then
          bd (f_X_commitIfLarge s5) fun r9 s8 =>
          if r9 = (0 : Int32) then
            some ((0 : Int32), s8)
          else
            bv (f_X_shorten a1 a2 s8) fun s11 =>
            some ((1 : Int32), s11)
        else
          some ((0 : Int32), s5)
set_option maxRecDepth 100000 in
set_option maxHeartbeats 4000000 in
theorem c_X_cut {l : Launch} {D : va_G} {K : Nat → ClassId} {q : Nat → Nat} {a1 a2 : Int32} {s0 sE : tj_S} {rE : Int32} (h : f_X_cut a1 a2 s0 = some (rE, sE)) : tj_Mi l D tj_cls (X_tys K) tj_N tj_T (X_cw K q) y_X_cut b_X_cut 3 .boolean 6 149 [.ref (q 0), .int a1, .int a2] s0 rE sE := by
  refine tj_start_i (by decide +kernel) (Nat.le_of_ble_eq_true rfl) (fun Γ C fin => ?_)
  show tj_W Γ (X_cw K q) s0 [(0, .ref (q 0)), (1, .int a1), (2, .int a2)] 0 []
  unfold f_X_cut at h
  refine xw_aload_n C d_X_cut_0 0 rfl ?_
  refine xw_get C F_X_ok 0 rfl rfl 0 (by decide) T_122 rfl d_X_cut_1 ?_
  refine xw_getN C F_Power_ok 1 rfl rfl 0 (by decide) "ThreeModeJournal" N_31 rfl d_X_cut_4 ?_
  refine xw_if_eq C d_X_cut_7 (tgt := 33) (by decide) (fun hc16 => ?_) (fun hc16 => ?_)
  · replace h := it_t hc16 h
    refine xw_iconst C d_X_cut_33 (v := 0) (by decide) ?_
    exact fin _ _ _ _ h d_X_cut_34 rfl
  · replace h := it_f hc16 h
    refine xw_iload_n C d_X_cut_10 1 rfl ?_
    obtain ⟨r3, s2, hc1, h⟩ := bd_e h
    refine xw_callS_i C tj_Tg tj_Ng (n := 1) (As := [.int a1]) (rest := []) (c_X_isFile hc1) T_141 T_139 T_1 T_140 (by decide +kernel) (by decide) rfl rfl (Nat.le_of_ble_eq_true rfl) d_X_cut_11 ?_
    refine xw_if_eq C d_X_cut_14 (tgt := 33) (by decide) (fun hc15 => ?_) (fun hc15 => ?_)
    · replace h := it_t hc15 h
      refine xw_iconst C d_X_cut_33 (v := 0) (by decide) ?_
      exact fin _ _ _ _ h d_X_cut_34 rfl
    · replace h := it_f hc15 h
      refine xw_iload_n C d_X_cut_17 2 rfl ?_
      refine xw_if_lt C d_X_cut_18 (tgt := 33) (by decide) (fun hc14 => ?_) (fun hc14 => ?_)
      · replace h := it_t hc14 h
        refine xw_iconst C d_X_cut_33 (v := 0) (by decide) ?_
        exact fin _ _ _ _ h d_X_cut_34 rfl
      · replace h := it_f hc14 h
        refine xw_iload_n C d_X_cut_21 2 rfl ?_
        refine xw_aload_n C d_X_cut_22 0 rfl ?_
        refine xw_get C F_X_ok 0 rfl rfl 2 (by decide) T_124 rfl d_X_cut_23 ?_
        refine xw_iload_n C d_X_cut_26 1 rfl ?_
        obtain ⟨r6, s5, hc4, h⟩ := bd_e h
        refine xw_callV_i C tj_Tg tj_Ng (n := 1) (As := [.int a1]) (rest := [.int a2]) (c_Mem_fileLength hc4) T_145 T_142 T_5 T_143 T_144 10 rfl rfl rfl (by decide +kernel) (by decide) rfl rfl (Nat.le_of_ble_eq_true rfl) d_X_cut_27 ?_
        refine xw_icmp_lt C d_X_cut_30 (tgt := 35) (by decide) (fun hc13 => ?_) (fun hc13 => ?_)
        · replace h := it_t hc13 h
          refine xw_aload_n C d_X_cut_35 0 rfl ?_
          obtain ⟨r9, s8, hc7, h⟩ := bd_e h
          refine xw_callV_i C tj_Tg tj_Ng (n := 0) (As := []) (rest := []) (c_X_commitIfLarge hc7) T_178 T_175 T_1 T_177 S_2 0 rfl rfl rfl (by decide +kernel) (by decide) rfl rfl (Nat.le_of_ble_eq_true rfl) d_X_cut_36 ?_
          refine xw_if_ne C d_X_cut_39 (tgt := 44) (by decide) (fun hc12 => ?_) (fun hc12 => ?_)
          · replace h := it_f hc12 h
            refine xw_aload_n C d_X_cut_44 0 rfl ?_
            refine xw_iload_n C d_X_cut_45 1 rfl ?_
            refine xw_iload_n C d_X_cut_46 2 rfl ?_
            obtain ⟨s11, hc10, h⟩ := bv_e h
            refine xw_callV_v C tj_Tg tj_Ng (n := 2) (As := [.int a1, .int a2]) (rest := []) (c_X_shorten hc10) T_339 T_336 T_1 T_338 S_15 0 rfl rfl rfl (by decide +kernel) (by decide) rfl rfl (Nat.le_of_ble_eq_true rfl) d_X_cut_47 ?_
            refine xw_iconst C d_X_cut_50 (v := 1) (by decide) ?_
            exact fin _ _ _ _ h d_X_cut_51 rfl
          · replace h := it_t hc12 h
            refine xw_iconst C d_X_cut_42 (v := 0) (by decide) ?_
            exact fin _ _ _ _ h d_X_cut_43 rfl
        · replace h := it_f hc13 h
          refine xw_iconst C d_X_cut_33 (v := 0) (by decide) ?_
          exact fin _ _ _ _ h d_X_cut_34 rfl
def f_Mem_moveInode_L2 (y2 y3 : Int32) (k : Int32 → tj_S → Option (tj_S)) : Nat → Int32 → tj_S → Option (tj_S)
  | 0, _, _ => none
  | n + 1, x1, s4 =>
    if (4 : Int32) ≤ x1 then
      k x1 s4
    else
      bd (f_Mem_word y2 x1 s4) fun r7 s6 =>
      bv (f_Mem_setWord y3 x1 r7 s6) fun s9 =>
      bv (f_Mem_setWord y2 x1 (0 : Int32) s9) fun s11 =>
      nm (x1 + Int32.ofInt 1) fun x12 =>
      f_Mem_moveInode_L2 y2 y3 k n x12 s11
def f_Mem_moveInode (a1 a2 : Int32) (s0 : tj_S) : Option (tj_S) :=
  f_Mem_moveInode_L2 a1 a2 (fun x16 s17 =>
    bv (f_Mem_join a1 s17) fun s19 =>
    bv (f_Mem_join a2 s19) fun s21 =>
    some s21) 100 (0 : Int32) s0
set_option maxRecDepth 100000 in
set_option maxHeartbeats 4000000 in
theorem c_Mem_moveInode {l : Launch} {D : va_G} {K : Nat → ClassId} {q : Nat → Nat} {a1 a2 : Int32} {s0 sE : tj_S} (h : f_Mem_moveInode a1 a2 s0 = some sE) : tj_Mv l D tj_cls (X_tys K) tj_N tj_T (X_cw K q) y_Mem_moveInode b_Mem_moveInode 4 2 44 [.ref (q 10), .int a1, .int a2] s0 sE := by
  refine tj_start_v (by decide +kernel) (Nat.le_of_ble_eq_true rfl) (fun Γ C fin => ?_)
  show tj_W Γ (X_cw K q) s0 [(0, .ref (q 10)), (1, .int a1), (2, .int a2)] 0 []
  have L2 : ∀ (y2 y3 : Int32) (k : Int32 → tj_S → Option (tj_S)), (∀ (x14 : Int32) (s15 : tj_S), k x14 s15 = some sE → tj_W Γ (X_cw K q) s15 [(0, .ref (q 10)), (1, .int y2), (2, .int y3), (3, .int x14)] 32 []) → ∀ (n : Nat) (x1 : Int32) (s4 : tj_S), f_Mem_moveInode_L2 y2 y3 k n x1 s4 = some sE → tj_W Γ (X_cw K q) s4 [(0, .ref (q 10)), (1, .int y2), (2, .int y3), (3, .int x1)] 2 [] := by
    intro y2 y3 k hk n
    induction n with
    | zero => intro x1 s4 h; rw [f_Mem_moveInode_L2] at h; cases h
    | succ n ih =>
      intro x1 s4 h
      rw [f_Mem_moveInode_L2] at h
      refine xw_iload_n C d_Mem_moveInode_2 3 rfl ?_
      refine xw_iconst C d_Mem_moveInode_3 (v := 4) (by decide) ?_
      refine xw_icmp_ge C d_Mem_moveInode_4 (tgt := 32) (by decide) (fun hc13 => ?_) (fun hc13 => ?_)
      · replace h := it_t hc13 h
        exact xw_lv [0, 1, 2, 3] rfl (hk _ _ h)
      · replace h := it_f hc13 h
        refine xw_aload_n C d_Mem_moveInode_7 0 rfl ?_
        refine xw_iload_n C d_Mem_moveInode_8 2 rfl ?_
        refine xw_iload_n C d_Mem_moveInode_9 3 rfl ?_
        refine xw_aload_n C d_Mem_moveInode_10 0 rfl ?_
        refine xw_iload_n C d_Mem_moveInode_11 1 rfl ?_
        refine xw_iload_n C d_Mem_moveInode_12 3 rfl ?_
        obtain ⟨r7, s6, hc5, h⟩ := bd_e h
        refine xw_callV_i C tj_Tg tj_Ng (n := 2) (As := [.int y2, .int x1]) (rest := [.int x1, .int y3, .ref (q 10)]) (c_Mem_word hc5) T_149 T_146 T_5 T_147 T_148 10 rfl rfl rfl (by decide +kernel) (by decide) rfl rfl (Nat.le_of_ble_eq_true rfl) d_Mem_moveInode_13 ?_
        obtain ⟨s9, hc8, h⟩ := bv_e h
        refine xw_callV_v C tj_Tg tj_Ng (n := 3) (As := [.int y3, .int x1, .int r7]) (rest := []) (c_Mem_setWord hc8) T_301 T_298 T_5 T_299 T_300 10 rfl rfl rfl (by decide +kernel) (by decide) rfl rfl (Nat.le_of_ble_eq_true rfl) d_Mem_moveInode_16 ?_
        refine xw_aload_n C d_Mem_moveInode_19 0 rfl ?_
        refine xw_iload_n C d_Mem_moveInode_20 1 rfl ?_
        refine xw_iload_n C d_Mem_moveInode_21 3 rfl ?_
        refine xw_iconst C d_Mem_moveInode_22 (v := 0) (by decide) ?_
        obtain ⟨s11, hc10, h⟩ := bv_e h
        refine xw_callV_v C tj_Tg tj_Ng (n := 3) (As := [.int y2, .int x1, .int (0 : Int32)]) (rest := []) (c_Mem_setWord hc10) T_301 T_298 T_5 T_299 T_300 10 rfl rfl rfl (by decide +kernel) (by decide) rfl rfl (Nat.le_of_ble_eq_true rfl) d_Mem_moveInode_23 ?_
        refine xw_iinc C h (fun v => [(3, .int v), (0, .ref (q 10)), (1, .int y2), (2, .int y3)]) d_Mem_moveInode_26 3 rfl (by decide) (fun _ => rfl) (fun x12 h => ?_)
        refine xw_goto C d_Mem_moveInode_29 (tgt := 2) (by decide) ?_
        exact xw_lv [1, 2, 3, 0] rfl (ih _ _ h)
  unfold f_Mem_moveInode at h
  refine xw_iconst C d_Mem_moveInode_0 (v := 0) (by decide) ?_
  refine xw_istore_n C d_Mem_moveInode_1 rfl (by decide) (lv1 := [(3, .int (0 : Int32)), (0, .ref (q 10)), (1, .int a1), (2, .int a2)]) rfl ?_
  refine xw_lv [1, 2, 3, 0] rfl (L2 _ _ _ (fun x16 s17 h => ?_) 100 _ _ h)
  refine xw_aload_n C d_Mem_moveInode_32 0 rfl ?_
  refine xw_iload_n C d_Mem_moveInode_33 1 rfl ?_
  obtain ⟨s19, hc18, h⟩ := bv_e h
  refine xw_callV_v C tj_Tg tj_Ng (n := 1) (As := [.int a1]) (rest := []) (c_Mem_join hc18) T_305 T_302 T_5 T_303 T_304 10 rfl rfl rfl (by decide +kernel) (by decide) rfl rfl (Nat.le_of_ble_eq_true rfl) d_Mem_moveInode_34 ?_
  refine xw_aload_n C d_Mem_moveInode_37 0 rfl ?_
  refine xw_iload_n C d_Mem_moveInode_38 2 rfl ?_
  obtain ⟨s21, hc20, h⟩ := bv_e h
  refine xw_callV_v C tj_Tg tj_Ng (n := 1) (As := [.int a2]) (rest := []) (c_Mem_join hc20) T_305 T_302 T_5 T_303 T_304 10 rfl rfl rfl (by decide +kernel) (by decide) rfl rfl (Nat.le_of_ble_eq_true rfl) d_Mem_moveInode_39 ?_
  exact fin _ _ _ h d_Mem_moveInode_42
def f_X_rename (a1 a2 : Int32) (s0 : tj_S) : Option (Int32 × tj_S) :=
  if (s0 1 0) = (0 : Int32) then
    some ((0 : Int32), s0)
  else
    bd (f_X_isFile a1 s0) fun r3 s2 =>
    if r3 = (0 : Int32) then
      some ((0 : Int32), s2)
    else
      bd (f_X_isFile a2 s2) fun r6 s5 =>
      if r6 = (0 : Int32) then
        some ((0 : Int32), s5)
      else
        if a1 = a2 then
          some ((0 : Int32), s5)
        else
          bd (f_X_commitIfLarge s5) fun r9 s8 =>
          if r9 = (0 : Int32) then
            some ((0 : Int32), s8)
          else
            bv (f_X_shorten a2 (0 : Int32) s8) fun s11 =>
            bv (f_Mem_moveInode a1 a2 s11) fun s13 =>
            some ((1 : Int32), s13)
set_option maxRecDepth 100000 in
set_option maxHeartbeats 4000000 in
theorem c_X_rename {l : Launch} {D : va_G} {K : Nat → ClassId} {q : Nat → Nat} {a1 a2 : Int32} {s0 sE : tj_S} {rE : Int32} (h : f_X_rename a1 a2 s0 = some (rE, sE)) : tj_Mi l D tj_cls (X_tys K) tj_N tj_T (X_cw K q) y_X_rename b_X_rename 3 .boolean 6 149 [.ref (q 0), .int a1, .int a2] s0 rE sE := by
  refine tj_start_i (by decide +kernel) (Nat.le_of_ble_eq_true rfl) (fun Γ C fin => ?_)
  show tj_W Γ (X_cw K q) s0 [(0, .ref (q 0)), (1, .int a1), (2, .int a2)] 0 []
  unfold f_X_rename at h
  refine xw_aload_n C d_X_rename_0 0 rfl ?_
  refine xw_get C F_X_ok 0 rfl rfl 0 (by decide) T_122 rfl d_X_rename_1 ?_
  refine xw_getN C F_Power_ok 1 rfl rfl 0 (by decide) "ThreeModeJournal" N_31 rfl d_X_rename_4 ?_
  refine xw_if_eq C d_X_rename_7 (tgt := 29) (by decide) (fun hc18 => ?_) (fun hc18 => ?_)
  · replace h := it_t hc18 h
    refine xw_iconst C d_X_rename_29 (v := 0) (by decide) ?_
    exact fin _ _ _ _ h d_X_rename_30 rfl
  · replace h := it_f hc18 h
    refine xw_iload_n C d_X_rename_10 1 rfl ?_
    obtain ⟨r3, s2, hc1, h⟩ := bd_e h
    refine xw_callS_i C tj_Tg tj_Ng (n := 1) (As := [.int a1]) (rest := []) (c_X_isFile hc1) T_141 T_139 T_1 T_140 (by decide +kernel) (by decide) rfl rfl (Nat.le_of_ble_eq_true rfl) d_X_rename_11 ?_
    refine xw_if_eq C d_X_rename_14 (tgt := 29) (by decide) (fun hc17 => ?_) (fun hc17 => ?_)
    · replace h := it_t hc17 h
      refine xw_iconst C d_X_rename_29 (v := 0) (by decide) ?_
      exact fin _ _ _ _ h d_X_rename_30 rfl
    · replace h := it_f hc17 h
      refine xw_iload_n C d_X_rename_17 2 rfl ?_
      obtain ⟨r6, s5, hc4, h⟩ := bd_e h
      refine xw_callS_i C tj_Tg tj_Ng (n := 1) (As := [.int a2]) (rest := []) (c_X_isFile hc4) T_141 T_139 T_1 T_140 (by decide +kernel) (by decide) rfl rfl (Nat.le_of_ble_eq_true rfl) d_X_rename_18 ?_
      refine xw_if_eq C d_X_rename_21 (tgt := 29) (by decide) (fun hc16 => ?_) (fun hc16 => ?_)
      · replace h := it_t hc16 h
        refine xw_iconst C d_X_rename_29 (v := 0) (by decide) ?_
        exact fin _ _ _ _ h d_X_rename_30 rfl
      · replace h := it_f hc16 h
        refine xw_iload_n C d_X_rename_24 1 rfl ?_
        refine xw_iload_n C d_X_rename_25 2 rfl ?_
        refine xw_icmp_ne C d_X_rename_26 (tgt := 31) (by decide) (fun hc15 => ?_) (fun hc15 => ?_)
        · replace h := it_f hc15 h
          refine xw_aload_n C d_X_rename_31 0 rfl ?_
          obtain ⟨r9, s8, hc7, h⟩ := bd_e h
          refine xw_callV_i C tj_Tg tj_Ng (n := 0) (As := []) (rest := []) (c_X_commitIfLarge hc7) T_178 T_175 T_1 T_177 S_2 0 rfl rfl rfl (by decide +kernel) (by decide) rfl rfl (Nat.le_of_ble_eq_true rfl) d_X_rename_32 ?_
          refine xw_if_ne C d_X_rename_35 (tgt := 40) (by decide) (fun hc14 => ?_) (fun hc14 => ?_)
          · replace h := it_f hc14 h
            refine xw_aload_n C d_X_rename_40 0 rfl ?_
            refine xw_iload_n C d_X_rename_41 2 rfl ?_
            refine xw_iconst C d_X_rename_42 (v := 0) (by decide) ?_
            obtain ⟨s11, hc10, h⟩ := bv_e h
            refine xw_callV_v C tj_Tg tj_Ng (n := 2) (As := [.int a2, .int (0 : Int32)]) (rest := []) (c_X_shorten hc10) T_339 T_336 T_1 T_338 S_15 0 rfl rfl rfl (by decide +kernel) (by decide) rfl rfl (Nat.le_of_ble_eq_true rfl) d_X_rename_43 ?_
            refine xw_aload_n C d_X_rename_46 0 rfl ?_
            refine xw_get C F_X_ok 0 rfl rfl 2 (by decide) T_124 rfl d_X_rename_47 ?_
            refine xw_iload_n C d_X_rename_50 1 rfl ?_
            refine xw_iload_n C d_X_rename_51 2 rfl ?_
            obtain ⟨s13, hc12, h⟩ := bv_e h
            refine xw_callV_v C tj_Tg tj_Ng (n := 2) (As := [.int a1, .int a2]) (rest := []) (c_Mem_moveInode hc12) T_369 T_366 T_5 T_367 T_368 10 rfl rfl rfl (by decide +kernel) (by decide) rfl rfl (Nat.le_of_ble_eq_true rfl) d_X_rename_52 ?_
            refine xw_iconst C d_X_rename_55 (v := 1) (by decide) ?_
            exact fin _ _ _ _ h d_X_rename_56 rfl
          · replace h := it_t hc14 h
            refine xw_iconst C d_X_rename_38 (v := 0) (by decide) ?_
            exact fin _ _ _ _ h d_X_rename_39 rfl
        · replace h := it_t hc15 h
          refine xw_iconst C d_X_rename_29 (v := 0) (by decide) ?_
          exact fin _ _ _ _ h d_X_rename_30 rfl
def f_X_read (a1 a2 : Int32) (s0 : tj_S) : Option (Int32 × tj_S) :=
  if (s0 1 0) = (0 : Int32) then
    some ((0 : Int32), s0)
  else
    bd (f_X_isFile a1 s0) fun r3 s2 =>
    if r3 = (0 : Int32) then
      some ((0 : Int32), s2)
    else
      if a2 < (0 : Int32) then
        some ((0 : Int32), s2)
      else
        bd (f_Mem_fileLength a1 s2) fun r6 s5 =>
        if a2 < r6 then
          bd (f_Mem_dataBlock a1 (a2 / (4 : Int32)) s5) fun r9 s8 =>
          bd (f_Mem_word r9 (a2 - a2 / (4 : Int32) * (4 : Int32)) s8) fun r12 s11 =>
          some (r12, s11)
        else
          some ((0 : Int32), s5)
set_option maxRecDepth 100000 in
set_option maxHeartbeats 4000000 in
theorem c_X_read {l : Launch} {D : va_G} {K : Nat → ClassId} {q : Nat → Nat} {a1 a2 : Int32} {s0 sE : tj_S} {rE : Int32} (h : f_X_read a1 a2 s0 = some (rE, sE)) : tj_Mi l D tj_cls (X_tys K) tj_N tj_T (X_cw K q) y_X_read b_X_read 3 .int 3 65 [.ref (q 0), .int a1, .int a2] s0 rE sE := by
  refine tj_start_i (by decide +kernel) (Nat.le_of_ble_eq_true rfl) (fun Γ C fin => ?_)
  show tj_W Γ (X_cw K q) s0 [(0, .ref (q 0)), (1, .int a1), (2, .int a2)] 0 []
  unfold f_X_read at h
  refine xw_aload_n C d_X_read_0 0 rfl ?_
  refine xw_get C F_X_ok 0 rfl rfl 0 (by decide) T_122 rfl d_X_read_1 ?_
  refine xw_getN C F_Power_ok 1 rfl rfl 0 (by decide) "ThreeModeJournal" N_31 rfl d_X_read_4 ?_
  refine xw_if_eq C d_X_read_7 (tgt := 33) (by decide) (fun hc16 => ?_) (fun hc16 => ?_)
  · replace h := it_t hc16 h
    refine xw_iconst C d_X_read_33 (v := 0) (by decide) ?_
    exact fin _ _ _ _ h d_X_read_34 rfl
  · replace h := it_f hc16 h
    refine xw_iload_n C d_X_read_10 1 rfl ?_
    obtain ⟨r3, s2, hc1, h⟩ := bd_e h
    refine xw_callS_i C tj_Tg tj_Ng (n := 1) (As := [.int a1]) (rest := []) (c_X_isFile hc1) T_141 T_139 T_1 T_140 (by decide +kernel) (by decide) rfl rfl (Nat.le_of_ble_eq_true rfl) d_X_read_11 ?_
    refine xw_if_eq C d_X_read_14 (tgt := 33) (by decide) (fun hc15 => ?_) (fun hc15 => ?_)
    · replace h := it_t hc15 h
      refine xw_iconst C d_X_read_33 (v := 0) (by decide) ?_
      exact fin _ _ _ _ h d_X_read_34 rfl
    · replace h := it_f hc15 h
      refine xw_iload_n C d_X_read_17 2 rfl ?_
      refine xw_if_lt C d_X_read_18 (tgt := 33) (by decide) (fun hc14 => ?_) (fun hc14 => ?_)
      · replace h := it_t hc14 h
        refine xw_iconst C d_X_read_33 (v := 0) (by decide) ?_
        exact fin _ _ _ _ h d_X_read_34 rfl
      · replace h := it_f hc14 h
        refine xw_iload_n C d_X_read_21 2 rfl ?_
        refine xw_aload_n C d_X_read_22 0 rfl ?_
        refine xw_get C F_X_ok 0 rfl rfl 2 (by decide) T_124 rfl d_X_read_23 ?_
        refine xw_iload_n C d_X_read_26 1 rfl ?_
        obtain ⟨r6, s5, hc4, h⟩ := bd_e h
        refine xw_callV_i C tj_Tg tj_Ng (n := 1) (As := [.int a1]) (rest := [.int a2]) (c_Mem_fileLength hc4) T_145 T_142 T_5 T_143 T_144 10 rfl rfl rfl (by decide +kernel) (by decide) rfl rfl (Nat.le_of_ble_eq_true rfl) d_X_read_27 ?_
        refine xw_icmp_lt C d_X_read_30 (tgt := 35) (by decide) (fun hc13 => ?_) (fun hc13 => ?_)
        · replace h := it_t hc13 h
          refine xw_aload_n C d_X_read_35 0 rfl ?_
          refine xw_get C F_X_ok 0 rfl rfl 2 (by decide) T_124 rfl d_X_read_36 ?_
          refine xw_aload_n C d_X_read_39 0 rfl ?_
          refine xw_get C F_X_ok 0 rfl rfl 2 (by decide) T_124 rfl d_X_read_40 ?_
          refine xw_iload_n C d_X_read_43 1 rfl ?_
          refine xw_iload_n C d_X_read_44 2 rfl ?_
          refine xw_iconst C d_X_read_45 (v := 4) (by decide) ?_
          refine xw_idiv C d_X_read_46 (by decide) ?_
          obtain ⟨r9, s8, hc7, h⟩ := bd_e h
          refine xw_callV_i C tj_Tg tj_Ng (n := 2) (As := [.int a1, .int (a2 / (4 : Int32))]) (rest := [.ref (q 10)]) (c_Mem_dataBlock hc7) T_324 T_321 T_5 T_322 T_323 10 rfl rfl rfl (by decide +kernel) (by decide) rfl rfl (Nat.le_of_ble_eq_true rfl) d_X_read_47 ?_
          refine xw_iload_n C d_X_read_50 2 rfl ?_
          refine xw_iconst C d_X_read_51 (v := 4) (by decide) ?_
          refine xw_irem C d_X_read_52 (by decide) ?_
          obtain ⟨r12, s11, hc10, h⟩ := bd_e h
          refine xw_callV_i C tj_Tg tj_Ng (n := 2) (As := [.int r9, .int (a2 - a2 / (4 : Int32) * (4 : Int32))]) (rest := []) (c_Mem_word hc10) T_149 T_352 T_5 T_147 T_148 10 rfl rfl rfl (by decide +kernel) (by decide) rfl rfl (Nat.le_of_ble_eq_true rfl) d_X_read_53 ?_
          exact fin _ _ _ _ h d_X_read_56 rfl
        · replace h := it_f hc13 h
          refine xw_iconst C d_X_read_33 (v := 0) (by decide) ?_
          exact fin _ _ _ _ h d_X_read_34 rfl
def f_X_length (a1 : Int32) (s0 : tj_S) : Option (Int32 × tj_S) :=
  if (s0 1 0) = (0 : Int32) then
    some ((-1 : Int32), s0)
  else
    bd (f_X_isFile a1 s0) fun r3 s2 =>
    if r3 = (0 : Int32) then
      some ((-1 : Int32), s2)
    else
      bd (f_Mem_fileLength a1 s2) fun r6 s5 =>
      some (r6, s5)
set_option maxRecDepth 100000 in
set_option maxHeartbeats 4000000 in
theorem c_X_length {l : Launch} {D : va_G} {K : Nat → ClassId} {q : Nat → Nat} {a1 : Int32} {s0 sE : tj_S} {rE : Int32} (h : f_X_length a1 s0 = some (rE, sE)) : tj_Mi l D tj_cls (X_tys K) tj_N tj_T (X_cw K q) y_X_length b_X_length 2 .int 3 64 [.ref (q 0), .int a1] s0 rE sE := by
  refine tj_start_i (by decide +kernel) (Nat.le_of_ble_eq_true rfl) (fun Γ C fin => ?_)
  show tj_W Γ (X_cw K q) s0 [(0, .ref (q 0)), (1, .int a1)] 0 []
  unfold f_X_length at h
  refine xw_aload_n C d_X_length_0 0 rfl ?_
  refine xw_get C F_X_ok 0 rfl rfl 0 (by decide) T_122 rfl d_X_length_1 ?_
  refine xw_getN C F_Power_ok 1 rfl rfl 0 (by decide) "ThreeModeJournal" N_31 rfl d_X_length_4 ?_
  refine xw_if_eq C d_X_length_7 (tgt := 28) (by decide) (fun hc8 => ?_) (fun hc8 => ?_)
  · replace h := it_t hc8 h
    refine xw_iconst C d_X_length_28 (v := -1) (by decide) ?_
    exact fin _ _ _ _ h d_X_length_29 rfl
  · replace h := it_f hc8 h
    refine xw_iload_n C d_X_length_10 1 rfl ?_
    obtain ⟨r3, s2, hc1, h⟩ := bd_e h
    refine xw_callS_i C tj_Tg tj_Ng (n := 1) (As := [.int a1]) (rest := []) (c_X_isFile hc1) T_141 T_139 T_1 T_140 (by decide +kernel) (by decide) rfl rfl (Nat.le_of_ble_eq_true rfl) d_X_length_11 ?_
    refine xw_if_eq C d_X_length_14 (tgt := 28) (by decide) (fun hc7 => ?_) (fun hc7 => ?_)
    · replace h := it_t hc7 h
      refine xw_iconst C d_X_length_28 (v := -1) (by decide) ?_
      exact fin _ _ _ _ h d_X_length_29 rfl
    · replace h := it_f hc7 h
      refine xw_aload_n C d_X_length_17 0 rfl ?_
      refine xw_get C F_X_ok 0 rfl rfl 2 (by decide) T_124 rfl d_X_length_18 ?_
      refine xw_iload_n C d_X_length_21 1 rfl ?_
      obtain ⟨r6, s5, hc4, h⟩ := bd_e h
      refine xw_callV_i C tj_Tg tj_Ng (n := 1) (As := [.int a1]) (rest := []) (c_Mem_fileLength hc4) T_145 T_142 T_5 T_143 T_144 10 rfl rfl rfl (by decide +kernel) (by decide) rfl rfl (Nat.le_of_ble_eq_true rfl) d_X_length_22 ?_
      refine xw_goto C d_X_length_25 (tgt := 29) (by decide) ?_
      exact fin _ _ _ _ h d_X_length_29 rfl
def f_X_commit (s0 : tj_S) : Option (Int32 × tj_S) :=
  if (s0 1 0) = (0 : Int32) then
    some ((-1 : Int32), s0)
  else
    bd (f_X_commitRunning s0) fun r3 s2 =>
    some (r3, s2)
set_option maxRecDepth 100000 in
set_option maxHeartbeats 4000000 in
theorem c_X_commit {l : Launch} {D : va_G} {K : Nat → ClassId} {q : Nat → Nat} {s0 sE : tj_S} {rE : Int32} (h : f_X_commit s0 = some (rE, sE)) : tj_Mi l D tj_cls (X_tys K) tj_N tj_T (X_cw K q) y_X_commit b_X_commit 1 .int 5 129 [.ref (q 0)] s0 rE sE := by
  refine tj_start_i (by decide +kernel) (Nat.le_of_ble_eq_true rfl) (fun Γ C fin => ?_)
  show tj_W Γ (X_cw K q) s0 [(0, .ref (q 0))] 0 []
  unfold f_X_commit at h
  refine xw_aload_n C d_X_commit_0 0 rfl ?_
  refine xw_get C F_X_ok 0 rfl rfl 0 (by decide) T_122 rfl d_X_commit_1 ?_
  refine xw_getN C F_Power_ok 1 rfl rfl 0 (by decide) "ThreeModeJournal" N_31 rfl d_X_commit_4 ?_
  refine xw_if_eq C d_X_commit_7 (tgt := 17) (by decide) (fun hc4 => ?_) (fun hc4 => ?_)
  · replace h := it_t hc4 h
    refine xw_iconst C d_X_commit_17 (v := -1) (by decide) ?_
    exact fin _ _ _ _ h d_X_commit_18 rfl
  · replace h := it_f hc4 h
    refine xw_aload_n C d_X_commit_10 0 rfl ?_
    obtain ⟨r3, s2, hc1, h⟩ := bd_e h
    refine xw_callV_i C tj_Tg tj_Ng (n := 0) (As := []) (rest := []) (c_X_commitRunning hc1) T_189 T_186 T_1 T_188 S_3 0 rfl rfl rfl (by decide +kernel) (by decide) rfl rfl (Nat.le_of_ble_eq_true rfl) d_X_commit_11 ?_
    refine xw_goto C d_X_commit_14 (tgt := 18) (by decide) ?_
    exact fin _ _ _ _ h d_X_commit_18 rfl
def f_Mem_isDataBlockOf_L12 (y8 y9 y10 : Int32) (k : Int32 → tj_S → Option (Int32 × tj_S)) : Nat → Int32 → tj_S → Option (Int32 × tj_S)
  | 0, _, _ => none
  | n + 1, x7, s11 =>
    if y10 ≤ x7 then
      k x7 s11
    else
      if (6 : Int32) ≤ x7 then
        k x7 s11
      else
        bd (f_Mem_dataBlock y8 x7 s11) fun r14 s13 =>
        if r14 = y9 then
          some ((1 : Int32), s13)
        else
          nm (x7 + Int32.ofInt 1) fun x15 =>
          f_Mem_isDataBlockOf_L12 y8 y9 y10 k n x15 s13
def f_Mem_isDataBlockOf (a1 a2 : Int32) (s0 : tj_S) : Option (Int32 × tj_S) :=
  bd (f_Mem_fileLength a1 s0) fun r3 s2 =>
  bd (f_X_dataBlocksFor r3 s2) fun r6 s5 =>
  f_Mem_isDataBlockOf_L12 a1 a2 r6 (fun x21 s22 =>
    some ((0 : Int32), s22)) 100 (0 : Int32) s5
set_option maxRecDepth 100000 in
set_option maxHeartbeats 4000000 in
theorem c_Mem_isDataBlockOf {l : Launch} {D : va_G} {K : Nat → ClassId} {q : Nat → Nat} {a1 a2 : Int32} {s0 sE : tj_S} {rE : Int32} (h : f_Mem_isDataBlockOf a1 a2 s0 = some (rE, sE)) : tj_Mi l D tj_cls (X_tys K) tj_N tj_T (X_cw K q) y_Mem_isDataBlockOf b_Mem_isDataBlockOf 5 .boolean 3 65 [.ref (q 10), .int a1, .int a2] s0 rE sE := by
  refine tj_start_i (by decide +kernel) (Nat.le_of_ble_eq_true rfl) (fun Γ C fin => ?_)
  show tj_W Γ (X_cw K q) s0 [(0, .ref (q 10)), (1, .int a1), (2, .int a2)] 0 []
  have L12 : ∀ (y8 y9 y10 : Int32) (k : Int32 → tj_S → Option (Int32 × tj_S)), (∀ (x19 : Int32) (s20 : tj_S), k x19 s20 = some (rE, sE) → tj_W Γ (X_cw K q) s20 [(0, .ref (q 10)), (1, .int y8), (2, .int y9), (3, .int y10), (4, .int x19)] 44 []) → ∀ (n : Nat) (x7 : Int32) (s11 : tj_S), f_Mem_isDataBlockOf_L12 y8 y9 y10 k n x7 s11 = some (rE, sE) → tj_W Γ (X_cw K q) s11 [(0, .ref (q 10)), (1, .int y8), (2, .int y9), (3, .int y10), (4, .int x7)] 12 [] := by
    intro y8 y9 y10 k hk n
    induction n with
    | zero => intro x7 s11 h; rw [f_Mem_isDataBlockOf_L12] at h; cases h
    | succ n ih =>
      intro x7 s11 h
      rw [f_Mem_isDataBlockOf_L12] at h
      refine xw_iload C d_Mem_isDataBlockOf_12 4 rfl ?_
      refine xw_iload_n C d_Mem_isDataBlockOf_14 3 rfl ?_
      refine xw_icmp_ge C d_Mem_isDataBlockOf_15 (tgt := 44) (by decide) (fun hc18 => ?_) (fun hc18 => ?_)
      · replace h := it_t hc18 h
        exact xw_lv [0, 1, 2, 3, 4] rfl (hk _ _ h)
      · replace h := it_f hc18 h
        refine xw_iload C d_Mem_isDataBlockOf_18 4 rfl ?_
        refine xw_bipush C d_Mem_isDataBlockOf_20 (v := 6) (by decide) ?_
        refine xw_icmp_ge C d_Mem_isDataBlockOf_22 (tgt := 44) (by decide) (fun hc17 => ?_) (fun hc17 => ?_)
        · replace h := it_t hc17 h
          exact xw_lv [0, 1, 2, 3, 4] rfl (hk _ _ h)
        · replace h := it_f hc17 h
          refine xw_aload_n C d_Mem_isDataBlockOf_25 0 rfl ?_
          refine xw_iload_n C d_Mem_isDataBlockOf_26 1 rfl ?_
          refine xw_iload C d_Mem_isDataBlockOf_27 4 rfl ?_
          obtain ⟨r14, s13, hc12, h⟩ := bd_e h
          refine xw_callV_i C tj_Tg tj_Ng (n := 2) (As := [.int y8, .int x7]) (rest := []) (c_Mem_dataBlock hc12) T_324 T_396 T_5 T_322 T_323 10 rfl rfl rfl (by decide +kernel) (by decide) rfl rfl (Nat.le_of_ble_eq_true rfl) d_Mem_isDataBlockOf_29 ?_
          refine xw_iload_n C d_Mem_isDataBlockOf_32 2 rfl ?_
          refine xw_icmp_ne C d_Mem_isDataBlockOf_33 (tgt := 38) (by decide) (fun hc16 => ?_) (fun hc16 => ?_)
          · replace h := it_f hc16 h
            refine xw_iinc C h (fun v => [(4, .int v), (0, .ref (q 10)), (1, .int y8), (2, .int y9), (3, .int y10)]) d_Mem_isDataBlockOf_38 4 rfl (by decide) (fun _ => rfl) (fun x15 h => ?_)
            refine xw_goto C d_Mem_isDataBlockOf_41 (tgt := 12) (by decide) ?_
            exact xw_lv [1, 2, 3, 4, 0] rfl (ih _ _ h)
          · replace h := it_t hc16 h
            refine xw_iconst C d_Mem_isDataBlockOf_36 (v := 1) (by decide) ?_
            exact fin _ _ _ _ h d_Mem_isDataBlockOf_37 rfl
  unfold f_Mem_isDataBlockOf at h
  refine xw_aload_n C d_Mem_isDataBlockOf_0 0 rfl ?_
  refine xw_iload_n C d_Mem_isDataBlockOf_1 1 rfl ?_
  obtain ⟨r3, s2, hc1, h⟩ := bd_e h
  refine xw_callV_i C tj_Tg tj_Ng (n := 1) (As := [.int a1]) (rest := []) (c_Mem_fileLength hc1) T_145 T_394 T_5 T_143 T_144 10 rfl rfl rfl (by decide +kernel) (by decide) rfl rfl (Nat.le_of_ble_eq_true rfl) d_Mem_isDataBlockOf_2 ?_
  obtain ⟨r6, s5, hc4, h⟩ := bd_e h
  refine xw_callSN_i C tj_Tg tj_Ng (n := 1) (As := [.int r3]) (rest := []) (c_X_dataBlocksFor hc4) T_342 "ThreeModeJournal" N_395 T_1 T_341 (by decide +kernel) (by decide) rfl rfl (Nat.le_of_ble_eq_true rfl) d_Mem_isDataBlockOf_5 ?_
  refine xw_istore_n C d_Mem_isDataBlockOf_8 rfl (by decide) (lv1 := [(3, .int r6), (0, .ref (q 10)), (1, .int a1), (2, .int a2)]) rfl ?_
  refine xw_iconst C d_Mem_isDataBlockOf_9 (v := 0) (by decide) ?_
  refine xw_istore C d_Mem_isDataBlockOf_10 (by decide) (lv1 := [(4, .int (0 : Int32)), (3, .int r6), (0, .ref (q 10)), (1, .int a1), (2, .int a2)]) rfl ?_
  refine xw_lv [2, 3, 4, 1, 0] rfl (L12 _ _ _ _ (fun x21 s22 h => ?_) 100 _ _ h)
  refine xw_iconst C d_Mem_isDataBlockOf_44 (v := 0) (by decide) ?_
  exact fin _ _ _ _ h d_Mem_isDataBlockOf_45 rfl
def f_X_writeDirtyOfFile_L13 (y4 y5 : Int32) (k : Int32 → Int32 → tj_S → Option (Int32 × tj_S)) : Nat → Int32 → Int32 → tj_S → Option (Int32 × tj_S)
  | 0, _, _, _ => none
  | n + 1, x2, x3, s6 =>
    if y5 ≤ x3 then
      k x2 x3 s6
    else
      bd (f_Mem_dirtyAt x2 s6) fun r9 s8 =>
      bd (f_Mem_isDataBlockOf y4 r9 s8) fun r12 s11 =>
      if r12 = (0 : Int32) then
        nm (x2 + Int32.ofInt 1) fun x18 =>
        nm (x3 + Int32.ofInt 1) fun x19 =>
        f_X_writeDirtyOfFile_L13 y4 y5 k n x18 x19 s11
      else
        bd (f_X_writeDirtyHome r9 s11) fun r15 s14 =>
        if r15 = (0 : Int32) then
          some ((0 : Int32), s14)
        else
          nm (x3 + Int32.ofInt 1) fun x16 =>
          f_X_writeDirtyOfFile_L13 y4 y5 k n x2 x16 s14
def f_X_writeDirtyOfFile (a1 : Int32) (s0 : tj_S) : Option (Int32 × tj_S) :=
  nm ((s0 10 2)) fun x1 =>
  f_X_writeDirtyOfFile_L13 a1 x1 (fun x25 x26 s27 =>
    some ((1 : Int32), s27)) 100 (0 : Int32) (0 : Int32) s0
set_option maxRecDepth 100000 in
set_option maxHeartbeats 4000000 in
theorem c_X_writeDirtyOfFile {l : Launch} {D : va_G} {K : Nat → ClassId} {q : Nat → Nat} {a1 : Int32} {s0 sE : tj_S} {rE : Int32} (h : f_X_writeDirtyOfFile a1 s0 = some (rE, sE)) : tj_Mi l D tj_cls (X_tys K) tj_N tj_T (X_cw K q) y_X_writeDirtyOfFile b_X_writeDirtyOfFile 6 .boolean 4 89 [.ref (q 0), .int a1] s0 rE sE := by
  refine tj_start_i (by decide +kernel) (Nat.le_of_ble_eq_true rfl) (fun Γ C fin => ?_)
  show tj_W Γ (X_cw K q) s0 [(0, .ref (q 0)), (1, .int a1)] 0 []
  have L13 : ∀ (y4 y5 : Int32) (k : Int32 → Int32 → tj_S → Option (Int32 × tj_S)), (∀ (x22 x23 : Int32) (s24 : tj_S), k x22 x23 s24 = some (rE, sE) → tj_W Γ (X_cw K q) s24 [(0, .ref (q 0)), (1, .int y4), (2, .int y5), (3, .int x22), (4, .int x23)] 65 []) → ∀ (n : Nat) (x2 x3 : Int32) (s6 : tj_S), f_X_writeDirtyOfFile_L13 y4 y5 k n x2 x3 s6 = some (rE, sE) → tj_W Γ (X_cw K q) s6 [(0, .ref (q 0)), (1, .int y4), (2, .int y5), (3, .int x2), (4, .int x3)] 13 [] := by
    intro y4 y5 k hk n
    induction n with
    | zero => intro x2 x3 s6 h; rw [f_X_writeDirtyOfFile_L13] at h; cases h
    | succ n ih =>
      intro x2 x3 s6 h
      rw [f_X_writeDirtyOfFile_L13] at h
      refine xw_iload C d_X_writeDirtyOfFile_13 4 rfl ?_
      refine xw_iload_n C d_X_writeDirtyOfFile_15 2 rfl ?_
      refine xw_icmp_ge C d_X_writeDirtyOfFile_16 (tgt := 65) (by decide) (fun hc21 => ?_) (fun hc21 => ?_)
      · replace h := it_t hc21 h
        exact xw_lv [0, 1, 2, 3, 4] rfl (hk _ _ _ h)
      · replace h := it_f hc21 h
        refine xw_aload_n C d_X_writeDirtyOfFile_19 0 rfl ?_
        refine xw_get C F_X_ok 0 rfl rfl 2 (by decide) T_124 rfl d_X_writeDirtyOfFile_20 ?_
        refine xw_iload_n C d_X_writeDirtyOfFile_23 3 rfl ?_
        obtain ⟨r9, s8, hc7, h⟩ := bd_e h
        refine xw_callV_i C tj_Tg tj_Ng (n := 1) (As := [.int x2]) (rest := []) (c_Mem_dirtyAt hc7) T_197 T_194 T_5 T_195 T_196 10 rfl rfl rfl (by decide +kernel) (by decide) rfl rfl (Nat.le_of_ble_eq_true rfl) d_X_writeDirtyOfFile_24 ?_
        refine xw_istore C d_X_writeDirtyOfFile_27 (by decide) (lv1 := [(5, .int r9), (0, .ref (q 0)), (1, .int y4), (2, .int y5), (3, .int x2), (4, .int x3)]) rfl ?_
        refine xw_aload_n C d_X_writeDirtyOfFile_29 1 rfl ?_
        refine xw_get C F_X_ok 0 rfl rfl 2 (by decide) T_124 rfl d_X_writeDirtyOfFile_30 ?_
        refine xw_iload_n C d_X_writeDirtyOfFile_33 2 rfl ?_
        refine xw_iload C d_X_writeDirtyOfFile_34 0 rfl ?_
        obtain ⟨r12, s11, hc10, h⟩ := bd_e h
        refine xw_callV_i C tj_Tg tj_Ng (n := 2) (As := [.int y4, .int r9]) (rest := []) (c_Mem_isDataBlockOf hc10) T_393 T_390 T_5 T_391 T_392 10 rfl rfl rfl (by decide +kernel) (by decide) rfl rfl (Nat.le_of_ble_eq_true rfl) d_X_writeDirtyOfFile_36 ?_
        refine xw_if_ne C d_X_writeDirtyOfFile_39 (tgt := 48) (by decide) (fun hc20 => ?_) (fun hc20 => ?_)
        · replace h := it_f hc20 h
          refine xw_aload_n C d_X_writeDirtyOfFile_48 1 rfl ?_
          refine xw_iload C d_X_writeDirtyOfFile_49 0 rfl ?_
          obtain ⟨r15, s14, hc13, h⟩ := bd_e h
          refine xw_callV_i C tj_Tg tj_Ng (n := 1) (As := [.int r9]) (rest := []) (c_X_writeDirtyHome hc13) T_201 T_198 T_1 T_200 S_5 0 rfl rfl rfl (by decide +kernel) (by decide) rfl rfl (Nat.le_of_ble_eq_true rfl) d_X_writeDirtyOfFile_51 ?_
          refine xw_if_ne C d_X_writeDirtyOfFile_54 (tgt := 59) (by decide) (fun hc17 => ?_) (fun hc17 => ?_)
          · replace h := it_f hc17 h
            refine xw_iinc C h (fun v => [(4, .int v), (5, .int r9), (0, .ref (q 0)), (1, .int y4), (2, .int y5), (3, .int x2)]) d_X_writeDirtyOfFile_59 5 rfl (by decide) (fun _ => rfl) (fun x16 h => ?_)
            refine xw_goto C d_X_writeDirtyOfFile_62 (tgt := 13) (by decide) ?_
            exact xw_lv [2, 3, 4, 5, 0] rfl (ih _ _ _ h)
          · replace h := it_t hc17 h
            refine xw_iconst C d_X_writeDirtyOfFile_57 (v := 0) (by decide) ?_
            exact fin _ _ _ _ h d_X_writeDirtyOfFile_58 rfl
        · replace h := it_t hc20 h
          refine xw_iinc C h (fun v => [(3, .int v), (5, .int r9), (0, .ref (q 0)), (1, .int y4), (2, .int y5), (4, .int x3)]) d_X_writeDirtyOfFile_42 4 rfl (by decide) (fun _ => rfl) (fun x18 h => ?_)
          refine xw_goto C d_X_writeDirtyOfFile_45 (tgt := 59) (by decide) ?_
          refine xw_iinc C h (fun v => [(4, .int v), (3, .int x18), (5, .int r9), (0, .ref (q 0)), (1, .int y4), (2, .int y5)]) d_X_writeDirtyOfFile_59 5 rfl (by decide) (fun _ => rfl) (fun x19 h => ?_)
          refine xw_goto C d_X_writeDirtyOfFile_62 (tgt := 13) (by decide) ?_
          exact xw_lv [3, 4, 5, 1, 0] rfl (ih _ _ _ h)
  unfold f_X_writeDirtyOfFile at h
  refine xw_aload_n C d_X_writeDirtyOfFile_0 0 rfl ?_
  refine xw_get C F_X_ok 0 rfl rfl 2 (by decide) T_124 rfl d_X_writeDirtyOfFile_1 ?_
  refine xw_getN C F_Mem_ok 10 rfl rfl 2 (by decide) "ThreeModeJournal" N_103 rfl d_X_writeDirtyOfFile_4 ?_
  refine xw_ni h (fun x1 h => ?_)
  refine xw_istore_n C d_X_writeDirtyOfFile_7 rfl (by decide) (lv1 := [(2, .int x1), (0, .ref (q 0)), (1, .int a1)]) rfl ?_
  refine xw_iconst C d_X_writeDirtyOfFile_8 (v := 0) (by decide) ?_
  refine xw_istore_n C d_X_writeDirtyOfFile_9 rfl (by decide) (lv1 := [(3, .int (0 : Int32)), (2, .int x1), (0, .ref (q 0)), (1, .int a1)]) rfl ?_
  refine xw_iconst C d_X_writeDirtyOfFile_10 (v := 0) (by decide) ?_
  refine xw_istore C d_X_writeDirtyOfFile_11 (by decide) (lv1 := [(4, .int (0 : Int32)), (3, .int (0 : Int32)), (2, .int x1), (0, .ref (q 0)), (1, .int a1)]) rfl ?_
  refine xw_lv [3, 4, 2, 1, 0] rfl (L13 _ _ _ (fun x25 x26 s27 h => ?_) 100 _ _ _ h)
  refine xw_iconst C d_X_writeDirtyOfFile_65 (v := 1) (by decide) ?_
  exact fin _ _ _ _ h d_X_writeDirtyOfFile_66 rfl
def f_X_sync (a1 : Int32) (s0 : tj_S) : Option (Int32 × tj_S) :=
  if (s0 1 0) = (0 : Int32) then
    some ((0 : Int32), s0)
  else
    bd (f_X_isFile a1 s0) fun r3 s2 =>
    if r3 = (0 : Int32) then
      some ((0 : Int32), s2)
    else
      if (s2 0 3) = (0 : Int32) then
        bd (f_X_writeDirtyOfFile a1 s2) fun r10 s9 =>
        if r10 = (0 : Int32) then
          some ((0 : Int32), s9)
        else
          bd (f_X_commitRunning s9) fun r13 s12 =>
          if r13 = (-2 : Int32) then
            some ((0 : Int32), s12)
          else
            some ((1 : Int32), s12)
      else
        bd (f_X_commitRunning s2) fun r6 s5 =>
        if r6 = (-2 : Int32) then
          some ((0 : Int32), s5)
        else
          some ((1 : Int32), s5)
set_option maxRecDepth 100000 in
set_option maxHeartbeats 4000000 in
theorem c_X_sync {l : Launch} {D : va_G} {K : Nat → ClassId} {q : Nat → Nat} {a1 : Int32} {s0 sE : tj_S} {rE : Int32} (h : f_X_sync a1 s0 = some (rE, sE)) : tj_Mi l D tj_cls (X_tys K) tj_N tj_T (X_cw K q) y_X_sync b_X_sync 2 .boolean 5 129 [.ref (q 0), .int a1] s0 rE sE := by
  refine tj_start_i (by decide +kernel) (Nat.le_of_ble_eq_true rfl) (fun Γ C fin => ?_)
  show tj_W Γ (X_cw K q) s0 [(0, .ref (q 0)), (1, .int a1)] 0 []
  unfold f_X_sync at h
  refine xw_aload_n C d_X_sync_0 0 rfl ?_
  refine xw_get C F_X_ok 0 rfl rfl 0 (by decide) T_122 rfl d_X_sync_1 ?_
  refine xw_getN C F_Power_ok 1 rfl rfl 0 (by decide) "ThreeModeJournal" N_31 rfl d_X_sync_4 ?_
  refine xw_if_eq C d_X_sync_7 (tgt := 17) (by decide) (fun hc18 => ?_) (fun hc18 => ?_)
  · replace h := it_t hc18 h
    refine xw_iconst C d_X_sync_17 (v := 0) (by decide) ?_
    exact fin _ _ _ _ h d_X_sync_18 rfl
  · replace h := it_f hc18 h
    refine xw_iload_n C d_X_sync_10 1 rfl ?_
    obtain ⟨r3, s2, hc1, h⟩ := bd_e h
    refine xw_callS_i C tj_Tg tj_Ng (n := 1) (As := [.int a1]) (rest := []) (c_X_isFile hc1) T_141 T_139 T_1 T_140 (by decide +kernel) (by decide) rfl rfl (Nat.le_of_ble_eq_true rfl) d_X_sync_11 ?_
    refine xw_if_ne C d_X_sync_14 (tgt := 19) (by decide) (fun hc17 => ?_) (fun hc17 => ?_)
    · replace h := it_f hc17 h
      refine xw_aload_n C d_X_sync_19 0 rfl ?_
      refine xw_get C F_X_ok 0 rfl rfl 3 (by decide) T_125 rfl d_X_sync_20 ?_
      refine xw_if_ne C d_X_sync_23 (tgt := 36) (by decide) (fun hc16 => ?_) (fun hc16 => ?_)
      · replace h := it_f hc16 h
        refine xw_aload_n C d_X_sync_36 0 rfl ?_
        obtain ⟨r6, s5, hc4, h⟩ := bd_e h
        refine xw_callV_i C tj_Tg tj_Ng (n := 0) (As := []) (rest := []) (c_X_commitRunning hc4) T_189 T_186 T_1 T_188 S_3 0 rfl rfl rfl (by decide +kernel) (by decide) rfl rfl (Nat.le_of_ble_eq_true rfl) d_X_sync_37 ?_
        refine xw_bipush C d_X_sync_40 (v := -2) (by decide) ?_
        refine xw_icmp_eq C d_X_sync_42 (tgt := 49) (by decide) (fun hc7 => ?_) (fun hc7 => ?_)
        · replace h := it_t hc7 h
          refine xw_iconst C d_X_sync_49 (v := 0) (by decide) ?_
          exact fin _ _ _ _ h d_X_sync_50 rfl
        · replace h := it_f hc7 h
          refine xw_iconst C d_X_sync_45 (v := 1) (by decide) ?_
          refine xw_goto C d_X_sync_46 (tgt := 50) (by decide) ?_
          exact fin _ _ _ _ h d_X_sync_50 rfl
      · replace h := it_t hc16 h
        refine xw_aload_n C d_X_sync_26 0 rfl ?_
        refine xw_iload_n C d_X_sync_27 1 rfl ?_
        obtain ⟨r10, s9, hc8, h⟩ := bd_e h
        refine xw_callV_i C tj_Tg tj_Ng (n := 1) (As := [.int a1]) (rest := []) (c_X_writeDirtyOfFile hc8) T_389 T_386 T_1 T_388 S_17 0 rfl rfl rfl (by decide +kernel) (by decide) rfl rfl (Nat.le_of_ble_eq_true rfl) d_X_sync_28 ?_
        refine xw_if_ne C d_X_sync_31 (tgt := 36) (by decide) (fun hc15 => ?_) (fun hc15 => ?_)
        · replace h := it_f hc15 h
          refine xw_aload_n C d_X_sync_36 0 rfl ?_
          obtain ⟨r13, s12, hc11, h⟩ := bd_e h
          refine xw_callV_i C tj_Tg tj_Ng (n := 0) (As := []) (rest := []) (c_X_commitRunning hc11) T_189 T_186 T_1 T_188 S_3 0 rfl rfl rfl (by decide +kernel) (by decide) rfl rfl (Nat.le_of_ble_eq_true rfl) d_X_sync_37 ?_
          refine xw_bipush C d_X_sync_40 (v := -2) (by decide) ?_
          refine xw_icmp_eq C d_X_sync_42 (tgt := 49) (by decide) (fun hc14 => ?_) (fun hc14 => ?_)
          · replace h := it_t hc14 h
            refine xw_iconst C d_X_sync_49 (v := 0) (by decide) ?_
            exact fin _ _ _ _ h d_X_sync_50 rfl
          · replace h := it_f hc14 h
            refine xw_iconst C d_X_sync_45 (v := 1) (by decide) ?_
            refine xw_goto C d_X_sync_46 (tgt := 50) (by decide) ?_
            exact fin _ _ _ _ h d_X_sync_50 rfl
        · replace h := it_t hc15 h
          refine xw_iconst C d_X_sync_34 (v := 0) (by decide) ?_
          exact fin _ _ _ _ h d_X_sync_35 rfl
    · replace h := it_t hc17 h
      refine xw_iconst C d_X_sync_17 (v := 0) (by decide) ?_
      exact fin _ _ _ _ h d_X_sync_18 rfl
def f_X_flush (a1 : Int32) (s0 : tj_S) : Option (Int32 × tj_S) :=
  if (s0 1 0) = (0 : Int32) then
    some ((-1 : Int32), s0)
  else
    if (1 : Int32) ≤ a1 then
      nm ((if (s0 10 2) < a1 then (s0 10 2) else a1)) fun x1 =>
      bd (f_X_writeFirstDirty x1 s0) fun r4 s3 =>
      if r4 = (0 : Int32) then
        some ((-2 : Int32), s3)
      else
        some (x1, s3)
    else
      some ((-1 : Int32), s0)
set_option maxRecDepth 100000 in
set_option maxHeartbeats 4000000 in
theorem c_X_flush {l : Launch} {D : va_G} {K : Nat → ClassId} {q : Nat → Nat} {a1 : Int32} {s0 sE : tj_S} {rE : Int32} (h : f_X_flush a1 s0 = some (rE, sE)) : tj_Mi l D tj_cls (X_tys K) tj_N tj_T (X_cw K q) y_X_flush b_X_flush 3 .int 4 106 [.ref (q 0), .int a1] s0 rE sE := by
  refine tj_start_i (by decide +kernel) (Nat.le_of_ble_eq_true rfl) (fun Γ C fin => ?_)
  show tj_W Γ (X_cw K q) s0 [(0, .ref (q 0)), (1, .int a1)] 0 []
  unfold f_X_flush at h
  refine xw_aload_n C d_X_flush_0 0 rfl ?_
  refine xw_get C F_X_ok 0 rfl rfl 0 (by decide) T_122 rfl d_X_flush_1 ?_
  refine xw_getN C F_Power_ok 1 rfl rfl 0 (by decide) "ThreeModeJournal" N_31 rfl d_X_flush_4 ?_
  refine xw_if_eq C d_X_flush_7 (tgt := 15) (by decide) (fun hc7 => ?_) (fun hc7 => ?_)
  · replace h := it_t hc7 h
    refine xw_iconst C d_X_flush_15 (v := -1) (by decide) ?_
    exact fin _ _ _ _ h d_X_flush_16 rfl
  · replace h := it_f hc7 h
    refine xw_iload_n C d_X_flush_10 1 rfl ?_
    refine xw_iconst C d_X_flush_11 (v := 1) (by decide) ?_
    refine xw_icmp_ge C d_X_flush_12 (tgt := 17) (by decide) (fun hc6 => ?_) (fun hc6 => ?_)
    · replace h := it_t hc6 h
      refine xw_iload_n C d_X_flush_17 1 rfl ?_
      refine xw_aload_n C d_X_flush_18 0 rfl ?_
      refine xw_get C F_X_ok 0 rfl rfl 2 (by decide) T_124 rfl d_X_flush_19 ?_
      refine xw_getN C F_Mem_ok 10 rfl rfl 2 (by decide) "ThreeModeJournal" N_103 rfl d_X_flush_22 ?_
      refine xw_min C T_401 T_402 T_9 T_403 (by decide) (Nat.le_of_ble_eq_true rfl) d_X_flush_25 ?_
      refine xw_ni h (fun x1 h => ?_)
      refine xw_istore_n C d_X_flush_28 rfl (by decide) (lv1 := [(2, .int x1), (0, .ref (q 0)), (1, .int a1)]) rfl ?_
      refine xw_aload_n C d_X_flush_29 1 rfl ?_
      refine xw_iload_n C d_X_flush_30 0 rfl ?_
      obtain ⟨r4, s3, hc2, h⟩ := bd_e h
      refine xw_callV_i C tj_Tg tj_Ng (n := 1) (As := [.int x1]) (rest := []) (c_X_writeFirstDirty hc2) T_193 T_190 T_1 T_192 S_4 0 rfl rfl rfl (by decide +kernel) (by decide) rfl rfl (Nat.le_of_ble_eq_true rfl) d_X_flush_31 ?_
      refine xw_if_eq C d_X_flush_34 (tgt := 41) (by decide) (fun hc5 => ?_) (fun hc5 => ?_)
      · replace h := it_t hc5 h
        refine xw_bipush C d_X_flush_41 (v := -2) (by decide) ?_
        exact fin _ _ _ _ h d_X_flush_43 rfl
      · replace h := it_f hc5 h
        refine xw_iload_n C d_X_flush_37 0 rfl ?_
        refine xw_goto C d_X_flush_38 (tgt := 43) (by decide) ?_
        exact fin _ _ _ _ h d_X_flush_43 rfl
    · replace h := it_f hc6 h
      refine xw_iconst C d_X_flush_15 (v := -1) (by decide) ?_
      exact fin _ _ _ _ h d_X_flush_16 rfl
