def f_X_commitIfLarge (s0 : tj_S) : Option (Int32 × tj_S) :=
  bd (f_Mem_logBlocksNeeded s0) fun r3 s2 =>
  if r3 ≤ (12 : Int32) then
    some ((1 : Int32), s2)
  else
    bd (f_X_commitRunning s2) fun r6 s5 =>
    if r6 = (-2 : Int32) then
      some ((0 : Int32), s5)
    else
      some ((1 : Int32), s5)
set_option maxRecDepth 100000 in
set_option maxHeartbeats 4000000 in
theorem c_X_commitIfLarge {l : Launch} {D : va_G} {K : Nat → ClassId} {q : Nat → Nat} {s0 sE : tj_S} {rE : Int32} (h : f_X_commitIfLarge s0 = some (rE, sE)) : tj_Mi l D tj_cls (X_tys K) tj_N tj_T (X_cw K q) y_X_commitIfLarge b_X_commitIfLarge 1 .boolean 5 129 [.ref (q 0)] s0 rE sE := by
  refine tj_start_i (by decide +kernel) (Nat.le_of_ble_eq_true rfl) (fun Γ C fin => ?_)
  show tj_W Γ (X_cw K q) s0 [(0, .ref (q 0))] 0 []
  unfold f_X_commitIfLarge at h
  refine xw_aload_n C d_X_commitIfLarge_0 0 rfl ?_
  refine xw_get C F_X_ok 0 rfl rfl 2 (by decide) T_124 rfl d_X_commitIfLarge_1 ?_
  obtain ⟨r3, s2, hc1, h⟩ := bd_e h
  refine xw_callV_i C tj_Tg tj_Ng (n := 0) (As := []) (rest := []) (c_Mem_logBlocksNeeded hc1) T_182 T_179 T_5 T_180 T_181 10 rfl rfl rfl (by decide +kernel) (by decide) rfl rfl (Nat.le_of_ble_eq_true rfl) d_X_commitIfLarge_4 ?_
  refine xw_bipush C d_X_commitIfLarge_7 (v := 12) (by decide) ?_
  refine xw_icmp_le C d_X_commitIfLarge_9 (tgt := 21) (by decide) (fun hc8 => ?_) (fun hc8 => ?_)
  · replace h := it_t hc8 h
    refine xw_iconst C d_X_commitIfLarge_21 (v := 1) (by decide) ?_
    refine xw_goto C d_X_commitIfLarge_22 (tgt := 26) (by decide) ?_
    exact fin _ _ _ _ h d_X_commitIfLarge_26 rfl
  · replace h := it_f hc8 h
    refine xw_aload_n C d_X_commitIfLarge_12 0 rfl ?_
    obtain ⟨r6, s5, hc4, h⟩ := bd_e h
    refine xw_callV_i C tj_Tg tj_Ng (n := 0) (As := []) (rest := []) (c_X_commitRunning hc4) T_189 T_186 T_1 T_188 S_3 0 rfl rfl rfl (by decide +kernel) (by decide) rfl rfl (Nat.le_of_ble_eq_true rfl) d_X_commitIfLarge_13 ?_
    refine xw_bipush C d_X_commitIfLarge_16 (v := -2) (by decide) ?_
    refine xw_icmp_eq C d_X_commitIfLarge_18 (tgt := 25) (by decide) (fun hc7 => ?_) (fun hc7 => ?_)
    · replace h := it_t hc7 h
      refine xw_iconst C d_X_commitIfLarge_25 (v := 0) (by decide) ?_
      exact fin _ _ _ _ h d_X_commitIfLarge_26 rfl
    · replace h := it_f hc7 h
      refine xw_iconst C d_X_commitIfLarge_21 (v := 1) (by decide) ?_
      refine xw_goto C d_X_commitIfLarge_22 (tgt := 26) (by decide) ?_
      exact fin _ _ _ _ h d_X_commitIfLarge_26 rfl
def f_Mem_dataBlock (a1 a2 : Int32) (s0 : tj_S) : Option (Int32 × tj_S) :=
  if (2 : Int32) ≤ a2 then
    bd (f_Mem_word a1 (3 : Int32) s0) fun r3 s2 =>
    bd (f_Mem_word r3 (a2 - (2 : Int32)) s2) fun r6 s5 =>
    some (r6, s5)
  else
    bd (f_Mem_word a1 ((1 : Int32) + a2) s0) fun r9 s8 =>
    some (r9, s8)
set_option maxRecDepth 100000 in
set_option maxHeartbeats 4000000 in
theorem c_Mem_dataBlock {l : Launch} {D : va_G} {K : Nat → ClassId} {q : Nat → Nat} {a1 a2 : Int32} {s0 sE : tj_S} {rE : Int32} (h : f_Mem_dataBlock a1 a2 s0 = some (rE, sE)) : tj_Mi l D tj_cls (X_tys K) tj_N tj_T (X_cw K q) y_Mem_dataBlock b_Mem_dataBlock 3 .int 2 43 [.ref (q 10), .int a1, .int a2] s0 rE sE := by
  refine tj_start_i (by decide +kernel) (Nat.le_of_ble_eq_true rfl) (fun Γ C fin => ?_)
  show tj_W Γ (X_cw K q) s0 [(0, .ref (q 10)), (1, .int a1), (2, .int a2)] 0 []
  unfold f_Mem_dataBlock at h
  refine xw_iload_n C d_Mem_dataBlock_0 2 rfl ?_
  refine xw_iconst C d_Mem_dataBlock_1 (v := 2) (by decide) ?_
  refine xw_icmp_ge C d_Mem_dataBlock_2 (tgt := 14) (by decide) (fun hc10 => ?_) (fun hc10 => ?_)
  · replace h := it_t hc10 h
    refine xw_aload_n C d_Mem_dataBlock_14 0 rfl ?_
    refine xw_aload_n C d_Mem_dataBlock_15 0 rfl ?_
    refine xw_iload_n C d_Mem_dataBlock_16 1 rfl ?_
    refine xw_iconst C d_Mem_dataBlock_17 (v := 3) (by decide) ?_
    obtain ⟨r3, s2, hc1, h⟩ := bd_e h
    refine xw_callV_i C tj_Tg tj_Ng (n := 2) (As := [.int a1, .int (3 : Int32)]) (rest := [.ref (q 10)]) (c_Mem_word hc1) T_149 T_146 T_5 T_147 T_148 10 rfl rfl rfl (by decide +kernel) (by decide) rfl rfl (Nat.le_of_ble_eq_true rfl) d_Mem_dataBlock_18 ?_
    refine xw_iload_n C d_Mem_dataBlock_21 2 rfl ?_
    refine xw_iconst C d_Mem_dataBlock_22 (v := 2) (by decide) ?_
    refine xw_isub C d_Mem_dataBlock_23 ?_
    obtain ⟨r6, s5, hc4, h⟩ := bd_e h
    refine xw_callV_i C tj_Tg tj_Ng (n := 2) (As := [.int r3, .int (a2 - (2 : Int32))]) (rest := []) (c_Mem_word hc4) T_149 T_146 T_5 T_147 T_148 10 rfl rfl rfl (by decide +kernel) (by decide) rfl rfl (Nat.le_of_ble_eq_true rfl) d_Mem_dataBlock_24 ?_
    exact fin _ _ _ _ h d_Mem_dataBlock_27 rfl
  · replace h := it_f hc10 h
    refine xw_aload_n C d_Mem_dataBlock_5 0 rfl ?_
    refine xw_iload_n C d_Mem_dataBlock_6 1 rfl ?_
    refine xw_iconst C d_Mem_dataBlock_7 (v := 1) (by decide) ?_
    refine xw_iload_n C d_Mem_dataBlock_8 2 rfl ?_
    refine xw_iadd C d_Mem_dataBlock_9 ?_
    obtain ⟨r9, s8, hc7, h⟩ := bd_e h
    refine xw_callV_i C tj_Tg tj_Ng (n := 2) (As := [.int a1, .int ((1 : Int32) + a2)]) (rest := []) (c_Mem_word hc7) T_149 T_146 T_5 T_147 T_148 10 rfl rfl rfl (by decide +kernel) (by decide) rfl rfl (Nat.le_of_ble_eq_true rfl) d_Mem_dataBlock_10 ?_
    exact fin _ _ _ _ h d_Mem_dataBlock_13 rfl
def f_Mem_setWord (a1 a2 a3 : Int32) (s0 : tj_S) : Option (tj_S) :=
  bd (f_X_isWord a1 a2 s0) fun r3 s2 =>
  if r3 = (0 : Int32) then
    some s2
  else
    gd (inb ((a1 * (4 : Int32)) + a2) 92) <|
    nm (up2 s2 11 (Int32.toNatClampNeg ((a1 * (4 : Int32)) + a2)) a3) fun s5 =>
    some s5
set_option maxRecDepth 100000 in
set_option maxHeartbeats 4000000 in
theorem c_Mem_setWord {l : Launch} {D : va_G} {K : Nat → ClassId} {q : Nat → Nat} {a1 a2 a3 : Int32} {s0 sE : tj_S} (h : f_Mem_setWord a1 a2 a3 s0 = some sE) : tj_Mv l D tj_cls (X_tys K) tj_N tj_T (X_cw K q) y_Mem_setWord b_Mem_setWord 4 1 21 [.ref (q 10), .int a1, .int a2, .int a3] s0 sE := by
  refine tj_start_v (by decide +kernel) (Nat.le_of_ble_eq_true rfl) (fun Γ C fin => ?_)
  show tj_W Γ (X_cw K q) s0 [(0, .ref (q 10)), (1, .int a1), (2, .int a2), (3, .int a3)] 0 []
  unfold f_Mem_setWord at h
  refine xw_iload_n C d_Mem_setWord_0 1 rfl ?_
  refine xw_iload_n C d_Mem_setWord_1 2 rfl ?_
  obtain ⟨r3, s2, hc1, h⟩ := bd_e h
  refine xw_callSN_i C tj_Tg tj_Ng (n := 2) (As := [.int a1, .int a2]) (rest := []) (c_X_isWord hc1) T_152 "ThreeModeJournal" N_150 T_1 T_151 (by decide +kernel) (by decide) rfl rfl (Nat.le_of_ble_eq_true rfl) d_Mem_setWord_2 ?_
  refine xw_if_eq C d_Mem_setWord_5 (tgt := 19) (by decide) (fun hc6 => ?_) (fun hc6 => ?_)
  · replace h := it_t hc6 h
    exact fin _ _ _ h d_Mem_setWord_19
  · replace h := it_f hc6 h
    refine xw_aload_n C d_Mem_setWord_8 0 rfl ?_
    refine xw_get C F_Mem_ok 10 rfl rfl 0 (by decide) T_98 rfl d_Mem_setWord_9 ?_
    refine xw_iload_n C d_Mem_setWord_12 1 rfl ?_
    refine xw_iconst C d_Mem_setWord_13 (v := 4) (by decide) ?_
    refine xw_imul C d_Mem_setWord_14 ?_
    refine xw_iload_n C d_Mem_setWord_15 2 rfl ?_
    refine xw_iadd C d_Mem_setWord_16 ?_
    refine xw_iload_n C d_Mem_setWord_17 3 rfl ?_
    obtain ⟨hb4, h⟩ := gd_e h
    refine xw_iast C 11 6 rfl rfl hb4 d_Mem_setWord_18 (σ1 := (up2 s2 11 (Int32.toNatClampNeg ((a1 * (4 : Int32)) + a2)) a3)) rfl ?_
    refine xw_ns h (fun s5 h => ?_)
    exact fin _ _ _ h d_Mem_setWord_19
def f_X_isPoolBlock (a0 : Int32) (s0 : tj_S) : Option (Int32 × tj_S) :=
  if a0 < (7 : Int32) then
    some ((0 : Int32), s0)
  else
    if (23 : Int32) ≤ a0 then
      some ((0 : Int32), s0)
    else
      some ((1 : Int32), s0)
set_option maxRecDepth 100000 in
set_option maxHeartbeats 4000000 in
theorem c_X_isPoolBlock {l : Launch} {D : va_G} {K : Nat → ClassId} {q : Nat → Nat} {a0 : Int32} {s0 sE : tj_S} {rE : Int32} (h : f_X_isPoolBlock a0 s0 = some (rE, sE)) : tj_Mi l D tj_cls (X_tys K) tj_N tj_T (X_cw K q) y_X_isPoolBlock b_X_isPoolBlock 1 .boolean 0 0 [.int a0] s0 rE sE := by
  refine tj_start_i (by decide +kernel) (Nat.le_of_ble_eq_true rfl) (fun Γ C fin => ?_)
  show tj_W Γ (X_cw K q) s0 [(0, .int a0)] 0 []
  unfold f_X_isPoolBlock at h
  refine xw_iload_n C d_X_isPoolBlock_0 0 rfl ?_
  refine xw_bipush C d_X_isPoolBlock_1 (v := 7) (by decide) ?_
  refine xw_icmp_lt C d_X_isPoolBlock_3 (tgt := 16) (by decide) (fun hc2 => ?_) (fun hc2 => ?_)
  · replace h := it_t hc2 h
    refine xw_iconst C d_X_isPoolBlock_16 (v := 0) (by decide) ?_
    exact fin _ _ _ _ h d_X_isPoolBlock_17 rfl
  · replace h := it_f hc2 h
    refine xw_iload_n C d_X_isPoolBlock_6 0 rfl ?_
    refine xw_bipush C d_X_isPoolBlock_7 (v := 23) (by decide) ?_
    refine xw_icmp_ge C d_X_isPoolBlock_9 (tgt := 16) (by decide) (fun hc1 => ?_) (fun hc1 => ?_)
    · replace h := it_t hc1 h
      refine xw_iconst C d_X_isPoolBlock_16 (v := 0) (by decide) ?_
      exact fin _ _ _ _ h d_X_isPoolBlock_17 rfl
    · replace h := it_f hc1 h
      refine xw_iconst C d_X_isPoolBlock_12 (v := 1) (by decide) ?_
      refine xw_goto C d_X_isPoolBlock_13 (tgt := 17) (by decide) ?_
      exact fin _ _ _ _ h d_X_isPoolBlock_17 rfl
def f_Mem_makeDirty (a1 : Int32) (s0 : tj_S) : Option (tj_S) :=
  bd (f_X_isPoolBlock a1 s0) fun r3 s2 =>
  if r3 = (0 : Int32) then
    some s2
  else
    bd (f_Mem_dirtyPlace a1 s2) fun r6 s5 =>
    if r6 = (s5 10 2) then
      if (16 : Int32) ≤ (s5 10 2) then
        some s5
      else
        gd (inb (s5 10 2) 16) <|
        nm (up2 s5 12 (Int32.toNatClampNeg (s5 10 2)) a1) fun s8 =>
        nm (up2 s8 10 2 ((s8 10 2) + (1 : Int32))) fun s9 =>
        some s9
    else
      some s5
set_option maxRecDepth 100000 in
set_option maxHeartbeats 4000000 in
theorem c_Mem_makeDirty {l : Launch} {D : va_G} {K : Nat → ClassId} {q : Nat → Nat} {a1 : Int32} {s0 sE : tj_S} (h : f_Mem_makeDirty a1 s0 = some sE) : tj_Mv l D tj_cls (X_tys K) tj_N tj_T (X_cw K q) y_Mem_makeDirty b_Mem_makeDirty 2 1 22 [.ref (q 10), .int a1] s0 sE := by
  refine tj_start_v (by decide +kernel) (Nat.le_of_ble_eq_true rfl) (fun Γ C fin => ?_)
  show tj_W Γ (X_cw K q) s0 [(0, .ref (q 10)), (1, .int a1)] 0 []
  unfold f_Mem_makeDirty at h
  refine xw_iload_n C d_Mem_makeDirty_0 1 rfl ?_
  obtain ⟨r3, s2, hc1, h⟩ := bd_e h
  refine xw_callSN_i C tj_Tg tj_Ng (n := 1) (As := [.int a1]) (rest := []) (c_X_isPoolBlock hc1) T_331 "ThreeModeJournal" N_329 T_1 T_330 (by decide +kernel) (by decide) rfl rfl (Nat.le_of_ble_eq_true rfl) d_Mem_makeDirty_1 ?_
  refine xw_if_eq C d_Mem_makeDirty_4 (tgt := 48) (by decide) (fun hc12 => ?_) (fun hc12 => ?_)
  · replace h := it_t hc12 h
    exact fin _ _ _ h d_Mem_makeDirty_48
  · replace h := it_f hc12 h
    refine xw_aload_n C d_Mem_makeDirty_7 0 rfl ?_
    refine xw_iload_n C d_Mem_makeDirty_8 1 rfl ?_
    obtain ⟨r6, s5, hc4, h⟩ := bd_e h
    refine xw_callV_i C tj_Tg tj_Ng (n := 1) (As := [.int a1]) (rest := []) (c_Mem_dirtyPlace hc4) T_223 T_220 T_5 T_222 S_6 10 rfl rfl rfl (by decide +kernel) (by decide) rfl rfl (Nat.le_of_ble_eq_true rfl) d_Mem_makeDirty_9 ?_
    refine xw_aload_n C d_Mem_makeDirty_12 0 rfl ?_
    refine xw_get C F_Mem_ok 10 rfl rfl 2 (by decide) T_102 rfl d_Mem_makeDirty_13 ?_
    refine xw_icmp_ne C d_Mem_makeDirty_16 (tgt := 48) (by decide) (fun hc11 => ?_) (fun hc11 => ?_)
    · replace h := it_f hc11 h
      exact fin _ _ _ h d_Mem_makeDirty_48
    · replace h := it_t hc11 h
      refine xw_aload_n C d_Mem_makeDirty_19 0 rfl ?_
      refine xw_get C F_Mem_ok 10 rfl rfl 2 (by decide) T_102 rfl d_Mem_makeDirty_20 ?_
      refine xw_bipush C d_Mem_makeDirty_23 (v := 16) (by decide) ?_
      refine xw_icmp_ge C d_Mem_makeDirty_25 (tgt := 48) (by decide) (fun hc10 => ?_) (fun hc10 => ?_)
      · replace h := it_t hc10 h
        exact fin _ _ _ h d_Mem_makeDirty_48
      · replace h := it_f hc10 h
        refine xw_aload_n C d_Mem_makeDirty_28 0 rfl ?_
        refine xw_get C F_Mem_ok 10 rfl rfl 1 (by decide) T_101 rfl d_Mem_makeDirty_29 ?_
        refine xw_aload_n C d_Mem_makeDirty_32 0 rfl ?_
        refine xw_get C F_Mem_ok 10 rfl rfl 2 (by decide) T_102 rfl d_Mem_makeDirty_33 ?_
        refine xw_iload_n C d_Mem_makeDirty_36 1 rfl ?_
        obtain ⟨hb7, h⟩ := gd_e h
        refine xw_iast C 12 7 rfl rfl hb7 d_Mem_makeDirty_37 (σ1 := (up2 s5 12 (Int32.toNatClampNeg (s5 10 2)) a1)) rfl ?_
        refine xw_ns h (fun s8 h => ?_)
        refine xw_aload_n C d_Mem_makeDirty_38 0 rfl ?_
        refine xw_dup C d_Mem_makeDirty_39 rfl ?_
        refine xw_get C F_Mem_ok 10 rfl rfl 2 (by decide) T_102 rfl d_Mem_makeDirty_40 ?_
        refine xw_iconst C d_Mem_makeDirty_43 (v := 1) (by decide) ?_
        refine xw_iadd C d_Mem_makeDirty_44 ?_
        refine xw_put C F_Mem_ok 10 rfl rfl 2 (by decide) T_102 rfl rfl rfl (Nat.le_of_ble_eq_true rfl) d_Mem_makeDirty_45 (σ1 := (up2 s8 10 2 ((s8 10 2) + (1 : Int32)))) rfl ?_
        refine xw_ns h (fun s9 h => ?_)
        exact fin _ _ _ h d_Mem_makeDirty_48
def f_Mem_join (a1 : Int32) (s0 : tj_S) : Option (tj_S) :=
  bd (f_X_isBlock a1 s0) fun r3 s2 =>
  if r3 = (0 : Int32) then
    some s2
  else
    nm (up2 s2 10 3 ((s2 10 3) ||| ((1 : Int32) <<< (a1 &&& 31)))) fun s4 =>
    some s4
set_option maxRecDepth 100000 in
set_option maxHeartbeats 4000000 in
theorem c_Mem_join {l : Launch} {D : va_G} {K : Nat → ClassId} {q : Nat → Nat} {a1 : Int32} {s0 sE : tj_S} (h : f_Mem_join a1 s0 = some sE) : tj_Mv l D tj_cls (X_tys K) tj_N tj_T (X_cw K q) y_Mem_join b_Mem_join 2 1 20 [.ref (q 10), .int a1] s0 sE := by
  refine tj_start_v (by decide +kernel) (Nat.le_of_ble_eq_true rfl) (fun Γ C fin => ?_)
  show tj_W Γ (X_cw K q) s0 [(0, .ref (q 10)), (1, .int a1)] 0 []
  unfold f_Mem_join at h
  refine xw_iload_n C d_Mem_join_0 1 rfl ?_
  obtain ⟨r3, s2, hc1, h⟩ := bd_e h
  refine xw_callSN_i C tj_Tg tj_Ng (n := 1) (As := [.int a1]) (rest := []) (c_X_isBlock hc1) T_212 "ThreeModeJournal" N_306 T_1 T_211 (by decide +kernel) (by decide) rfl rfl (Nat.le_of_ble_eq_true rfl) d_Mem_join_1 ?_
  refine xw_if_eq C d_Mem_join_4 (tgt := 19) (by decide) (fun hc5 => ?_) (fun hc5 => ?_)
  · replace h := it_t hc5 h
    exact fin _ _ _ h d_Mem_join_19
  · replace h := it_f hc5 h
    refine xw_aload_n C d_Mem_join_7 0 rfl ?_
    refine xw_dup C d_Mem_join_8 rfl ?_
    refine xw_get C F_Mem_ok 10 rfl rfl 3 (by decide) T_104 rfl d_Mem_join_9 ?_
    refine xw_iconst C d_Mem_join_12 (v := 1) (by decide) ?_
    refine xw_iload_n C d_Mem_join_13 1 rfl ?_
    refine xw_ishl C d_Mem_join_14 ?_
    refine xw_ior C d_Mem_join_15 ?_
    refine xw_put C F_Mem_ok 10 rfl rfl 3 (by decide) T_104 rfl rfl rfl (Nat.le_of_ble_eq_true rfl) d_Mem_join_16 (σ1 := (up2 s2 10 3 ((s2 10 3) ||| ((1 : Int32) <<< (a1 &&& 31))))) rfl ?_
    refine xw_ns h (fun s4 h => ?_)
    exact fin _ _ _ h d_Mem_join_19
def f_X_setDataWord (a1 a2 a3 : Int32) (s0 : tj_S) : Option (tj_S) :=
  bd (f_Mem_dataBlock a1 (a2 / (4 : Int32)) s0) fun r3 s2 =>
  bv (f_Mem_setWord r3 (a2 - a2 / (4 : Int32) * (4 : Int32)) a3 s2) fun s5 =>
  if (s5 0 3) = (2 : Int32) then
    bv (f_Mem_join r3 s5) fun s9 =>
    some s9
  else
    bv (f_Mem_makeDirty r3 s5) fun s7 =>
    some s7
set_option maxRecDepth 100000 in
set_option maxHeartbeats 4000000 in
theorem c_X_setDataWord {l : Launch} {D : va_G} {K : Nat → ClassId} {q : Nat → Nat} {a1 a2 a3 : Int32} {s0 sE : tj_S} (h : f_X_setDataWord a1 a2 a3 s0 = some sE) : tj_Mv l D tj_cls (X_tys K) tj_N tj_T (X_cw K q) y_X_setDataWord b_X_setDataWord 5 3 65 [.ref (q 0), .int a1, .int a2, .int a3] s0 sE := by
  refine tj_start_v (by decide +kernel) (Nat.le_of_ble_eq_true rfl) (fun Γ C fin => ?_)
  show tj_W Γ (X_cw K q) s0 [(0, .ref (q 0)), (1, .int a1), (2, .int a2), (3, .int a3)] 0 []
  unfold f_X_setDataWord at h
  refine xw_aload_n C d_X_setDataWord_0 0 rfl ?_
  refine xw_get C F_X_ok 0 rfl rfl 2 (by decide) T_124 rfl d_X_setDataWord_1 ?_
  refine xw_iload_n C d_X_setDataWord_4 1 rfl ?_
  refine xw_iload_n C d_X_setDataWord_5 2 rfl ?_
  refine xw_iconst C d_X_setDataWord_6 (v := 4) (by decide) ?_
  refine xw_idiv C d_X_setDataWord_7 (by decide) ?_
  obtain ⟨r3, s2, hc1, h⟩ := bd_e h
  refine xw_callV_i C tj_Tg tj_Ng (n := 2) (As := [.int a1, .int (a2 / (4 : Int32))]) (rest := []) (c_Mem_dataBlock hc1) T_324 T_321 T_5 T_322 T_323 10 rfl rfl rfl (by decide +kernel) (by decide) rfl rfl (Nat.le_of_ble_eq_true rfl) d_X_setDataWord_8 ?_
  refine xw_istore C d_X_setDataWord_11 (by decide) (lv1 := [(4, .int r3), (0, .ref (q 0)), (1, .int a1), (2, .int a2), (3, .int a3)]) rfl ?_
  refine xw_aload_n C d_X_setDataWord_13 1 rfl ?_
  refine xw_get C F_X_ok 0 rfl rfl 2 (by decide) T_124 rfl d_X_setDataWord_14 ?_
  refine xw_iload C d_X_setDataWord_17 0 rfl ?_
  refine xw_iload_n C d_X_setDataWord_19 3 rfl ?_
  refine xw_iconst C d_X_setDataWord_20 (v := 4) (by decide) ?_
  refine xw_irem C d_X_setDataWord_21 (by decide) ?_
  refine xw_iload_n C d_X_setDataWord_22 4 rfl ?_
  obtain ⟨s5, hc4, h⟩ := bv_e h
  refine xw_callV_v C tj_Tg tj_Ng (n := 3) (As := [.int r3, .int (a2 - a2 / (4 : Int32) * (4 : Int32)), .int a3]) (rest := []) (c_Mem_setWord hc4) T_301 T_311 T_5 T_299 T_300 10 rfl rfl rfl (by decide +kernel) (by decide) rfl rfl (Nat.le_of_ble_eq_true rfl) d_X_setDataWord_23 ?_
  refine xw_aload_n C d_X_setDataWord_26 1 rfl ?_
  refine xw_get C F_X_ok 0 rfl rfl 3 (by decide) T_125 rfl d_X_setDataWord_27 ?_
  refine xw_iconst C d_X_setDataWord_30 (v := 2) (by decide) ?_
  refine xw_icmp_ne C d_X_setDataWord_31 (tgt := 46) (by decide) (fun hc10 => ?_) (fun hc10 => ?_)
  · replace h := it_f hc10 h
    refine xw_aload_n C d_X_setDataWord_46 1 rfl ?_
    refine xw_get C F_X_ok 0 rfl rfl 2 (by decide) T_124 rfl d_X_setDataWord_47 ?_
    refine xw_iload C d_X_setDataWord_50 0 rfl ?_
    obtain ⟨s7, hc6, h⟩ := bv_e h
    refine xw_callV_v C tj_Tg tj_Ng (n := 1) (As := [.int r3]) (rest := []) (c_Mem_makeDirty hc6) T_328 T_325 T_5 T_326 T_327 10 rfl rfl rfl (by decide +kernel) (by decide) rfl rfl (Nat.le_of_ble_eq_true rfl) d_X_setDataWord_52 ?_
    exact fin _ _ _ h d_X_setDataWord_55
  · replace h := it_t hc10 h
    refine xw_aload_n C d_X_setDataWord_34 1 rfl ?_
    refine xw_get C F_X_ok 0 rfl rfl 2 (by decide) T_124 rfl d_X_setDataWord_35 ?_
    refine xw_iload C d_X_setDataWord_38 0 rfl ?_
    obtain ⟨s9, hc8, h⟩ := bv_e h
    refine xw_callV_v C tj_Tg tj_Ng (n := 1) (As := [.int r3]) (rest := []) (c_Mem_join hc8) T_305 T_316 T_5 T_303 T_304 10 rfl rfl rfl (by decide +kernel) (by decide) rfl rfl (Nat.le_of_ble_eq_true rfl) d_X_setDataWord_40 ?_
    refine xw_goto C d_X_setDataWord_43 (tgt := 55) (by decide) ?_
    exact fin _ _ _ h d_X_setDataWord_55
def f_Mem_clearWords_L2 (y2 : Int32) (k : Int32 → tj_S → Option (tj_S)) : Nat → Int32 → tj_S → Option (tj_S)
  | 0, _, _ => none
  | n + 1, x1, s3 =>
    if (4 : Int32) ≤ x1 then
      k x1 s3
    else
      bv (f_Mem_setWord y2 x1 (0 : Int32) s3) fun s5 =>
      nm (x1 + Int32.ofInt 1) fun x6 =>
      f_Mem_clearWords_L2 y2 k n x6 s5
def f_Mem_clearWords (a1 : Int32) (s0 : tj_S) : Option (tj_S) :=
  f_Mem_clearWords_L2 a1 (fun x10 s11 =>
    some s11) 100 (0 : Int32) s0
set_option maxRecDepth 100000 in
set_option maxHeartbeats 4000000 in
theorem c_Mem_clearWords {l : Launch} {D : va_G} {K : Nat → ClassId} {q : Nat → Nat} {a1 : Int32} {s0 sE : tj_S} (h : f_Mem_clearWords a1 s0 = some sE) : tj_Mv l D tj_cls (X_tys K) tj_N tj_T (X_cw K q) y_Mem_clearWords b_Mem_clearWords 3 2 44 [.ref (q 10), .int a1] s0 sE := by
  refine tj_start_v (by decide +kernel) (Nat.le_of_ble_eq_true rfl) (fun Γ C fin => ?_)
  show tj_W Γ (X_cw K q) s0 [(0, .ref (q 10)), (1, .int a1)] 0 []
  have L2 : ∀ (y2 : Int32) (k : Int32 → tj_S → Option (tj_S)), (∀ (x8 : Int32) (s9 : tj_S), k x8 s9 = some sE → tj_W Γ (X_cw K q) s9 [(0, .ref (q 10)), (1, .int y2), (2, .int x8)] 20 []) → ∀ (n : Nat) (x1 : Int32) (s3 : tj_S), f_Mem_clearWords_L2 y2 k n x1 s3 = some sE → tj_W Γ (X_cw K q) s3 [(0, .ref (q 10)), (1, .int y2), (2, .int x1)] 2 [] := by
    intro y2 k hk n
    induction n with
    | zero => intro x1 s3 h; rw [f_Mem_clearWords_L2] at h; cases h
    | succ n ih =>
      intro x1 s3 h
      rw [f_Mem_clearWords_L2] at h
      refine xw_iload_n C d_Mem_clearWords_2 2 rfl ?_
      refine xw_iconst C d_Mem_clearWords_3 (v := 4) (by decide) ?_
      refine xw_icmp_ge C d_Mem_clearWords_4 (tgt := 20) (by decide) (fun hc7 => ?_) (fun hc7 => ?_)
      · replace h := it_t hc7 h
        exact xw_lv [0, 1, 2] rfl (hk _ _ h)
      · replace h := it_f hc7 h
        refine xw_aload_n C d_Mem_clearWords_7 0 rfl ?_
        refine xw_iload_n C d_Mem_clearWords_8 1 rfl ?_
        refine xw_iload_n C d_Mem_clearWords_9 2 rfl ?_
        refine xw_iconst C d_Mem_clearWords_10 (v := 0) (by decide) ?_
        obtain ⟨s5, hc4, h⟩ := bv_e h
        refine xw_callV_v C tj_Tg tj_Ng (n := 3) (As := [.int y2, .int x1, .int (0 : Int32)]) (rest := []) (c_Mem_setWord hc4) T_301 T_298 T_5 T_299 T_300 10 rfl rfl rfl (by decide +kernel) (by decide) rfl rfl (Nat.le_of_ble_eq_true rfl) d_Mem_clearWords_11 ?_
        refine xw_iinc C h (fun v => [(2, .int v), (0, .ref (q 10)), (1, .int y2)]) d_Mem_clearWords_14 2 rfl (by decide) (fun _ => rfl) (fun x6 h => ?_)
        refine xw_goto C d_Mem_clearWords_17 (tgt := 2) (by decide) ?_
        exact xw_lv [1, 2, 0] rfl (ih _ _ h)
  unfold f_Mem_clearWords at h
  refine xw_iconst C d_Mem_clearWords_0 (v := 0) (by decide) ?_
  refine xw_istore_n C d_Mem_clearWords_1 rfl (by decide) (lv1 := [(2, .int (0 : Int32)), (0, .ref (q 10)), (1, .int a1)]) rfl ?_
  refine xw_lv [1, 2, 0] rfl (L2 _ _ (fun x10 s11 h => ?_) 100 _ _ h)
  exact fin _ _ _ h d_Mem_clearWords_20
def f_Mem_takeBlock_L8 (y5 : Int32) (k : Int32 → tj_S → Option (Int32 × tj_S)) : Nat → Int32 → tj_S → Option (Int32 × tj_S)
  | 0, _, _ => none
  | n + 1, x4, s6 =>
    if (23 : Int32) ≤ x4 then
      k x4 s6
    else
      if ((y5 >>> ((x4 - (7 : Int32)) &&& 31)) &&& (1 : Int32)) = (0 : Int32) then
        nm (x4 + Int32.ofInt 1) fun x7 =>
        f_Mem_takeBlock_L8 y5 k n x7 s6
      else
        bd (f_Mem_blocksInUse s6) fun r10 s9 =>
        bv (f_Mem_setWord (6 : Int32) (0 : Int32) (r10 ||| ((1 : Int32) <<< ((x4 - (7 : Int32)) &&& 31))) s9) fun s12 =>
        bv (f_Mem_join (6 : Int32) s12) fun s14 =>
        bv (f_Mem_clearWords x4 s14) fun s16 =>
        some (x4, s16)
def f_Mem_takeBlock (s0 : tj_S) : Option (Int32 × tj_S) :=
  bd (f_Mem_takeable s0) fun r3 s2 =>
  f_Mem_takeBlock_L8 r3 (fun x21 s22 =>
    some ((0 : Int32), s22)) 100 (7 : Int32) s2
set_option maxRecDepth 100000 in
set_option maxHeartbeats 4000000 in
theorem c_Mem_takeBlock {l : Launch} {D : va_G} {K : Nat → ClassId} {q : Nat → Nat} {s0 sE : tj_S} {rE : Int32} (h : f_Mem_takeBlock s0 = some (rE, sE)) : tj_Mi l D tj_cls (X_tys K) tj_N tj_T (X_cw K q) y_Mem_takeBlock b_Mem_takeBlock 3 .int 3 66 [.ref (q 10)] s0 rE sE := by
  refine tj_start_i (by decide +kernel) (Nat.le_of_ble_eq_true rfl) (fun Γ C fin => ?_)
  show tj_W Γ (X_cw K q) s0 [(0, .ref (q 10))] 0 []
  have L8 : ∀ (y5 : Int32) (k : Int32 → tj_S → Option (Int32 × tj_S)), (∀ (x19 : Int32) (s20 : tj_S), k x19 s20 = some (rE, sE) → tj_W Γ (X_cw K q) s20 [(0, .ref (q 10)), (1, .int y5), (2, .int x19)] 62 []) → ∀ (n : Nat) (x4 : Int32) (s6 : tj_S), f_Mem_takeBlock_L8 y5 k n x4 s6 = some (rE, sE) → tj_W Γ (X_cw K q) s6 [(0, .ref (q 10)), (1, .int y5), (2, .int x4)] 8 [] := by
    intro y5 k hk n
    induction n with
    | zero => intro x4 s6 h; rw [f_Mem_takeBlock_L8] at h; cases h
    | succ n ih =>
      intro x4 s6 h
      rw [f_Mem_takeBlock_L8] at h
      refine xw_iload_n C d_Mem_takeBlock_8 2 rfl ?_
      refine xw_bipush C d_Mem_takeBlock_9 (v := 23) (by decide) ?_
      refine xw_icmp_ge C d_Mem_takeBlock_11 (tgt := 62) (by decide) (fun hc18 => ?_) (fun hc18 => ?_)
      · replace h := it_t hc18 h
        exact xw_lv [0, 1, 2] rfl (hk _ _ h)
      · replace h := it_f hc18 h
        refine xw_iload_n C d_Mem_takeBlock_14 1 rfl ?_
        refine xw_iload_n C d_Mem_takeBlock_15 2 rfl ?_
        refine xw_bipush C d_Mem_takeBlock_16 (v := 7) (by decide) ?_
        refine xw_isub C d_Mem_takeBlock_18 ?_
        refine xw_ishr C d_Mem_takeBlock_19 ?_
        refine xw_iconst C d_Mem_takeBlock_20 (v := 1) (by decide) ?_
        refine xw_iand C d_Mem_takeBlock_21 ?_
        refine xw_if_eq C d_Mem_takeBlock_22 (tgt := 56) (by decide) (fun hc17 => ?_) (fun hc17 => ?_)
        · replace h := it_t hc17 h
          refine xw_iinc C h (fun v => [(2, .int v), (0, .ref (q 10)), (1, .int y5)]) d_Mem_takeBlock_56 2 rfl (by decide) (fun _ => rfl) (fun x7 h => ?_)
          refine xw_goto C d_Mem_takeBlock_59 (tgt := 8) (by decide) ?_
          exact xw_lv [1, 2, 0] rfl (ih _ _ h)
        · replace h := it_f hc17 h
          refine xw_aload_n C d_Mem_takeBlock_25 0 rfl ?_
          refine xw_bipush C d_Mem_takeBlock_26 (v := 6) (by decide) ?_
          refine xw_iconst C d_Mem_takeBlock_28 (v := 0) (by decide) ?_
          refine xw_aload_n C d_Mem_takeBlock_29 0 rfl ?_
          obtain ⟨r10, s9, hc8, h⟩ := bd_e h
          refine xw_callV_i C tj_Tg tj_Ng (n := 0) (As := []) (rest := [.int (0 : Int32), .int (6 : Int32), .ref (q 10)]) (c_Mem_blocksInUse hc8) T_167 T_164 T_5 T_166 S_1 10 rfl rfl rfl (by decide +kernel) (by decide) rfl rfl (Nat.le_of_ble_eq_true rfl) d_Mem_takeBlock_30 ?_
          refine xw_iconst C d_Mem_takeBlock_33 (v := 1) (by decide) ?_
          refine xw_iload_n C d_Mem_takeBlock_34 2 rfl ?_
          refine xw_bipush C d_Mem_takeBlock_35 (v := 7) (by decide) ?_
          refine xw_isub C d_Mem_takeBlock_37 ?_
          refine xw_ishl C d_Mem_takeBlock_38 ?_
          refine xw_ior C d_Mem_takeBlock_39 ?_
          obtain ⟨s12, hc11, h⟩ := bv_e h
          refine xw_callV_v C tj_Tg tj_Ng (n := 3) (As := [.int (6 : Int32), .int (0 : Int32), .int (r10 ||| ((1 : Int32) <<< ((x4 - (7 : Int32)) &&& 31)))]) (rest := []) (c_Mem_setWord hc11) T_301 T_298 T_5 T_299 T_300 10 rfl rfl rfl (by decide +kernel) (by decide) rfl rfl (Nat.le_of_ble_eq_true rfl) d_Mem_takeBlock_40 ?_
          refine xw_aload_n C d_Mem_takeBlock_43 0 rfl ?_
          refine xw_bipush C d_Mem_takeBlock_44 (v := 6) (by decide) ?_
          obtain ⟨s14, hc13, h⟩ := bv_e h
          refine xw_callV_v C tj_Tg tj_Ng (n := 1) (As := [.int (6 : Int32)]) (rest := []) (c_Mem_join hc13) T_305 T_302 T_5 T_303 T_304 10 rfl rfl rfl (by decide +kernel) (by decide) rfl rfl (Nat.le_of_ble_eq_true rfl) d_Mem_takeBlock_46 ?_
          refine xw_aload_n C d_Mem_takeBlock_49 0 rfl ?_
          refine xw_iload_n C d_Mem_takeBlock_50 2 rfl ?_
          obtain ⟨s16, hc15, h⟩ := bv_e h
          refine xw_callV_v C tj_Tg tj_Ng (n := 1) (As := [.int x4]) (rest := []) (c_Mem_clearWords hc15) T_310 T_307 T_5 T_309 S_13 10 rfl rfl rfl (by decide +kernel) (by decide) rfl rfl (Nat.le_of_ble_eq_true rfl) d_Mem_takeBlock_51 ?_
          refine xw_iload_n C d_Mem_takeBlock_54 2 rfl ?_
          exact fin _ _ _ _ h d_Mem_takeBlock_55 rfl
  unfold f_Mem_takeBlock at h
  refine xw_aload_n C d_Mem_takeBlock_0 0 rfl ?_
  obtain ⟨r3, s2, hc1, h⟩ := bd_e h
  refine xw_callV_i C tj_Tg tj_Ng (n := 0) (As := []) (rest := []) (c_Mem_takeable hc1) T_163 T_160 T_5 T_162 S_0 10 rfl rfl rfl (by decide +kernel) (by decide) rfl rfl (Nat.le_of_ble_eq_true rfl) d_Mem_takeBlock_1 ?_
  refine xw_istore_n C d_Mem_takeBlock_4 rfl (by decide) (lv1 := [(1, .int r3), (0, .ref (q 10))]) rfl ?_
  refine xw_bipush C d_Mem_takeBlock_5 (v := 7) (by decide) ?_
  refine xw_istore_n C d_Mem_takeBlock_7 rfl (by decide) (lv1 := [(2, .int (7 : Int32)), (1, .int r3), (0, .ref (q 10))]) rfl ?_
  refine xw_lv [2, 1, 0] rfl (L8 _ _ (fun x21 s22 h => ?_) 100 _ _ h)
  refine xw_iconst C d_Mem_takeBlock_62 (v := 0) (by decide) ?_
  exact fin _ _ _ _ h d_Mem_takeBlock_63 rfl
def f_Mem_putDataBlock (a1 a2 a3 : Int32) (s0 : tj_S) : Option (tj_S) :=
  if (2 : Int32) ≤ a2 then
    bd (f_Mem_word a1 (3 : Int32) s0) fun r3 s2 =>
    bv (f_Mem_setWord r3 (a2 - (2 : Int32)) a3 s2) fun s5 =>
    bv (f_Mem_join r3 s5) fun s7 =>
    some s7
  else
    bv (f_Mem_setWord a1 ((1 : Int32) + a2) a3 s0) fun s9 =>
    some s9
set_option maxRecDepth 100000 in
set_option maxHeartbeats 4000000 in
theorem c_Mem_putDataBlock {l : Launch} {D : va_G} {K : Nat → ClassId} {q : Nat → Nat} {a1 a2 a3 : Int32} {s0 sE : tj_S} (h : f_Mem_putDataBlock a1 a2 a3 s0 = some sE) : tj_Mv l D tj_cls (X_tys K) tj_N tj_T (X_cw K q) y_Mem_putDataBlock b_Mem_putDataBlock 5 2 44 [.ref (q 10), .int a1, .int a2, .int a3] s0 sE := by
  refine tj_start_v (by decide +kernel) (Nat.le_of_ble_eq_true rfl) (fun Γ C fin => ?_)
  show tj_W Γ (X_cw K q) s0 [(0, .ref (q 10)), (1, .int a1), (2, .int a2), (3, .int a3)] 0 []
  unfold f_Mem_putDataBlock at h
  refine xw_iload_n C d_Mem_putDataBlock_0 2 rfl ?_
  refine xw_iconst C d_Mem_putDataBlock_1 (v := 2) (by decide) ?_
  refine xw_icmp_ge C d_Mem_putDataBlock_2 (tgt := 15) (by decide) (fun hc10 => ?_) (fun hc10 => ?_)
  · replace h := it_t hc10 h
    refine xw_aload_n C d_Mem_putDataBlock_15 0 rfl ?_
    refine xw_iload_n C d_Mem_putDataBlock_16 1 rfl ?_
    refine xw_iconst C d_Mem_putDataBlock_17 (v := 3) (by decide) ?_
    obtain ⟨r3, s2, hc1, h⟩ := bd_e h
    refine xw_callV_i C tj_Tg tj_Ng (n := 2) (As := [.int a1, .int (3 : Int32)]) (rest := []) (c_Mem_word hc1) T_149 T_146 T_5 T_147 T_148 10 rfl rfl rfl (by decide +kernel) (by decide) rfl rfl (Nat.le_of_ble_eq_true rfl) d_Mem_putDataBlock_18 ?_
    refine xw_istore C d_Mem_putDataBlock_21 (by decide) (lv1 := [(4, .int r3), (0, .ref (q 10)), (1, .int a1), (2, .int a2), (3, .int a3)]) rfl ?_
    refine xw_aload_n C d_Mem_putDataBlock_23 1 rfl ?_
    refine xw_iload C d_Mem_putDataBlock_24 0 rfl ?_
    refine xw_iload_n C d_Mem_putDataBlock_26 3 rfl ?_
    refine xw_iconst C d_Mem_putDataBlock_27 (v := 2) (by decide) ?_
    refine xw_isub C d_Mem_putDataBlock_28 ?_
    refine xw_iload_n C d_Mem_putDataBlock_29 4 rfl ?_
    obtain ⟨s5, hc4, h⟩ := bv_e h
    refine xw_callV_v C tj_Tg tj_Ng (n := 3) (As := [.int r3, .int (a2 - (2 : Int32)), .int a3]) (rest := []) (c_Mem_setWord hc4) T_301 T_298 T_5 T_299 T_300 10 rfl rfl rfl (by decide +kernel) (by decide) rfl rfl (Nat.le_of_ble_eq_true rfl) d_Mem_putDataBlock_30 ?_
    refine xw_aload_n C d_Mem_putDataBlock_33 1 rfl ?_
    refine xw_iload C d_Mem_putDataBlock_34 0 rfl ?_
    obtain ⟨s7, hc6, h⟩ := bv_e h
    refine xw_callV_v C tj_Tg tj_Ng (n := 1) (As := [.int r3]) (rest := []) (c_Mem_join hc6) T_305 T_302 T_5 T_303 T_304 10 rfl rfl rfl (by decide +kernel) (by decide) rfl rfl (Nat.le_of_ble_eq_true rfl) d_Mem_putDataBlock_36 ?_
    exact fin _ _ _ h d_Mem_putDataBlock_39
  · replace h := it_f hc10 h
    refine xw_aload_n C d_Mem_putDataBlock_5 0 rfl ?_
    refine xw_iload_n C d_Mem_putDataBlock_6 1 rfl ?_
    refine xw_iconst C d_Mem_putDataBlock_7 (v := 1) (by decide) ?_
    refine xw_iload_n C d_Mem_putDataBlock_8 2 rfl ?_
    refine xw_iadd C d_Mem_putDataBlock_9 ?_
    refine xw_iload_n C d_Mem_putDataBlock_10 3 rfl ?_
    obtain ⟨s9, hc8, h⟩ := bv_e h
    refine xw_callV_v C tj_Tg tj_Ng (n := 3) (As := [.int a1, .int ((1 : Int32) + a2), .int a3]) (rest := []) (c_Mem_setWord hc8) T_301 T_298 T_5 T_299 T_300 10 rfl rfl rfl (by decide +kernel) (by decide) rfl rfl (Nat.le_of_ble_eq_true rfl) d_Mem_putDataBlock_11 ?_
    exact fin _ _ _ h d_Mem_putDataBlock_14
def f_X_addDataBlock (a1 a2 : Int32) (s0 : tj_S) : Option (tj_S) :=
  if a2 = (2 : Int32) then
    bd (f_Mem_takeBlock s0) fun r8 s7 =>
    bv (f_Mem_setWord a1 (3 : Int32) r8 s7) fun s10 =>
    bd (f_Mem_takeBlock s10) fun r13 s12 =>
    bv (f_Mem_putDataBlock a1 a2 r13 s12) fun s15 =>
    some s15
  else
    bd (f_Mem_takeBlock s0) fun r3 s2 =>
    bv (f_Mem_putDataBlock a1 a2 r3 s2) fun s5 =>
    some s5
set_option maxRecDepth 100000 in
set_option maxHeartbeats 4000000 in
theorem c_X_addDataBlock {l : Launch} {D : va_G} {K : Nat → ClassId} {q : Nat → Nat} {a1 a2 : Int32} {s0 sE : tj_S} (h : f_X_addDataBlock a1 a2 s0 = some sE) : tj_Mv l D tj_cls (X_tys K) tj_N tj_T (X_cw K q) y_X_addDataBlock b_X_addDataBlock 3 4 88 [.ref (q 0), .int a1, .int a2] s0 sE := by
  refine tj_start_v (by decide +kernel) (Nat.le_of_ble_eq_true rfl) (fun Γ C fin => ?_)
  show tj_W Γ (X_cw K q) s0 [(0, .ref (q 0)), (1, .int a1), (2, .int a2)] 0 []
  unfold f_X_addDataBlock at h
  refine xw_iload_n C d_X_addDataBlock_0 2 rfl ?_
  refine xw_iconst C d_X_addDataBlock_1 (v := 2) (by decide) ?_
  refine xw_icmp_ne C d_X_addDataBlock_2 (tgt := 21) (by decide) (fun hc16 => ?_) (fun hc16 => ?_)
  · replace h := it_f hc16 h
    refine xw_aload_n C d_X_addDataBlock_21 0 rfl ?_
    refine xw_get C F_X_ok 0 rfl rfl 2 (by decide) T_124 rfl d_X_addDataBlock_22 ?_
    refine xw_iload_n C d_X_addDataBlock_25 1 rfl ?_
    refine xw_iload_n C d_X_addDataBlock_26 2 rfl ?_
    refine xw_aload_n C d_X_addDataBlock_27 0 rfl ?_
    refine xw_get C F_X_ok 0 rfl rfl 2 (by decide) T_124 rfl d_X_addDataBlock_28 ?_
    obtain ⟨r3, s2, hc1, h⟩ := bd_e h
    refine xw_callV_i C tj_Tg tj_Ng (n := 0) (As := []) (rest := [.int a2, .int a1, .ref (q 10)]) (c_Mem_takeBlock hc1) T_297 T_294 T_5 T_295 T_296 10 rfl rfl rfl (by decide +kernel) (by decide) rfl rfl (Nat.le_of_ble_eq_true rfl) d_X_addDataBlock_31 ?_
    obtain ⟨s5, hc4, h⟩ := bv_e h
    refine xw_callV_v C tj_Tg tj_Ng (n := 3) (As := [.int a1, .int a2, .int r3]) (rest := []) (c_Mem_putDataBlock hc4) T_315 T_312 T_5 T_313 T_314 10 rfl rfl rfl (by decide +kernel) (by decide) rfl rfl (Nat.le_of_ble_eq_true rfl) d_X_addDataBlock_34 ?_
    exact fin _ _ _ h d_X_addDataBlock_37
  · replace h := it_t hc16 h
    refine xw_aload_n C d_X_addDataBlock_5 0 rfl ?_
    refine xw_get C F_X_ok 0 rfl rfl 2 (by decide) T_124 rfl d_X_addDataBlock_6 ?_
    refine xw_iload_n C d_X_addDataBlock_9 1 rfl ?_
    refine xw_iconst C d_X_addDataBlock_10 (v := 3) (by decide) ?_
    refine xw_aload_n C d_X_addDataBlock_11 0 rfl ?_
    refine xw_get C F_X_ok 0 rfl rfl 2 (by decide) T_124 rfl d_X_addDataBlock_12 ?_
    obtain ⟨r8, s7, hc6, h⟩ := bd_e h
    refine xw_callV_i C tj_Tg tj_Ng (n := 0) (As := []) (rest := [.int (3 : Int32), .int a1, .ref (q 10)]) (c_Mem_takeBlock hc6) T_297 T_294 T_5 T_295 T_296 10 rfl rfl rfl (by decide +kernel) (by decide) rfl rfl (Nat.le_of_ble_eq_true rfl) d_X_addDataBlock_15 ?_
    obtain ⟨s10, hc9, h⟩ := bv_e h
    refine xw_callV_v C tj_Tg tj_Ng (n := 3) (As := [.int a1, .int (3 : Int32), .int r8]) (rest := []) (c_Mem_setWord hc9) T_301 T_311 T_5 T_299 T_300 10 rfl rfl rfl (by decide +kernel) (by decide) rfl rfl (Nat.le_of_ble_eq_true rfl) d_X_addDataBlock_18 ?_
    refine xw_aload_n C d_X_addDataBlock_21 0 rfl ?_
    refine xw_get C F_X_ok 0 rfl rfl 2 (by decide) T_124 rfl d_X_addDataBlock_22 ?_
    refine xw_iload_n C d_X_addDataBlock_25 1 rfl ?_
    refine xw_iload_n C d_X_addDataBlock_26 2 rfl ?_
    refine xw_aload_n C d_X_addDataBlock_27 0 rfl ?_
    refine xw_get C F_X_ok 0 rfl rfl 2 (by decide) T_124 rfl d_X_addDataBlock_28 ?_
    obtain ⟨r13, s12, hc11, h⟩ := bd_e h
    refine xw_callV_i C tj_Tg tj_Ng (n := 0) (As := []) (rest := [.int a2, .int a1, .ref (q 10)]) (c_Mem_takeBlock hc11) T_297 T_294 T_5 T_295 T_296 10 rfl rfl rfl (by decide +kernel) (by decide) rfl rfl (Nat.le_of_ble_eq_true rfl) d_X_addDataBlock_31 ?_
    obtain ⟨s15, hc14, h⟩ := bv_e h
    refine xw_callV_v C tj_Tg tj_Ng (n := 3) (As := [.int a1, .int a2, .int r13]) (rest := []) (c_Mem_putDataBlock hc14) T_315 T_312 T_5 T_313 T_314 10 rfl rfl rfl (by decide +kernel) (by decide) rfl rfl (Nat.le_of_ble_eq_true rfl) d_X_addDataBlock_34 ?_
    exact fin _ _ _ h d_X_addDataBlock_37
def f_X_growByOne (a1 a2 : Int32) (s0 : tj_S) : Option (tj_S) :=
  if (a2 - a2 / (4 : Int32) * (4 : Int32)) = (0 : Int32) then
    bv (f_X_addDataBlock a1 (a2 / (4 : Int32)) s0) fun s6 =>
    bv (f_Mem_setWord a1 (0 : Int32) (a2 + (1 : Int32)) s6) fun s8 =>
    bv (f_Mem_join a1 s8) fun s10 =>
    some s10
  else
    bv (f_Mem_setWord a1 (0 : Int32) (a2 + (1 : Int32)) s0) fun s2 =>
    bv (f_Mem_join a1 s2) fun s4 =>
    some s4
set_option maxRecDepth 100000 in
set_option maxHeartbeats 4000000 in
theorem c_X_growByOne {l : Launch} {D : va_G} {K : Nat → ClassId} {q : Nat → Nat} {a1 a2 : Int32} {s0 sE : tj_S} (h : f_X_growByOne a1 a2 s0 = some sE) : tj_Mv l D tj_cls (X_tys K) tj_N tj_T (X_cw K q) y_X_growByOne b_X_growByOne 3 5 110 [.ref (q 0), .int a1, .int a2] s0 sE := by
  refine tj_start_v (by decide +kernel) (Nat.le_of_ble_eq_true rfl) (fun Γ C fin => ?_)
  show tj_W Γ (X_cw K q) s0 [(0, .ref (q 0)), (1, .int a1), (2, .int a2)] 0 []
  unfold f_X_growByOne at h
  refine xw_iload_n C d_X_growByOne_0 2 rfl ?_
  refine xw_iconst C d_X_growByOne_1 (v := 4) (by decide) ?_
  refine xw_irem C d_X_growByOne_2 (by decide) ?_
  refine xw_if_ne C d_X_growByOne_3 (tgt := 14) (by decide) (fun hc11 => ?_) (fun hc11 => ?_)
  · replace h := it_f hc11 h
    refine xw_aload_n C d_X_growByOne_14 0 rfl ?_
    refine xw_get C F_X_ok 0 rfl rfl 2 (by decide) T_124 rfl d_X_growByOne_15 ?_
    refine xw_iload_n C d_X_growByOne_18 1 rfl ?_
    refine xw_iconst C d_X_growByOne_19 (v := 0) (by decide) ?_
    refine xw_iload_n C d_X_growByOne_20 2 rfl ?_
    refine xw_iconst C d_X_growByOne_21 (v := 1) (by decide) ?_
    refine xw_iadd C d_X_growByOne_22 ?_
    obtain ⟨s2, hc1, h⟩ := bv_e h
    refine xw_callV_v C tj_Tg tj_Ng (n := 3) (As := [.int a1, .int (0 : Int32), .int (a2 + (1 : Int32))]) (rest := []) (c_Mem_setWord hc1) T_301 T_311 T_5 T_299 T_300 10 rfl rfl rfl (by decide +kernel) (by decide) rfl rfl (Nat.le_of_ble_eq_true rfl) d_X_growByOne_23 ?_
    refine xw_aload_n C d_X_growByOne_26 0 rfl ?_
    refine xw_get C F_X_ok 0 rfl rfl 2 (by decide) T_124 rfl d_X_growByOne_27 ?_
    refine xw_iload_n C d_X_growByOne_30 1 rfl ?_
    obtain ⟨s4, hc3, h⟩ := bv_e h
    refine xw_callV_v C tj_Tg tj_Ng (n := 1) (As := [.int a1]) (rest := []) (c_Mem_join hc3) T_305 T_316 T_5 T_303 T_304 10 rfl rfl rfl (by decide +kernel) (by decide) rfl rfl (Nat.le_of_ble_eq_true rfl) d_X_growByOne_31 ?_
    exact fin _ _ _ h d_X_growByOne_34
  · replace h := it_t hc11 h
    refine xw_aload_n C d_X_growByOne_6 0 rfl ?_
    refine xw_iload_n C d_X_growByOne_7 1 rfl ?_
    refine xw_iload_n C d_X_growByOne_8 2 rfl ?_
    refine xw_iconst C d_X_growByOne_9 (v := 4) (by decide) ?_
    refine xw_idiv C d_X_growByOne_10 (by decide) ?_
    obtain ⟨s6, hc5, h⟩ := bv_e h
    refine xw_callV_v C tj_Tg tj_Ng (n := 2) (As := [.int a1, .int (a2 / (4 : Int32))]) (rest := []) (c_X_addDataBlock hc5) T_293 T_290 T_1 T_292 S_12 0 rfl rfl rfl (by decide +kernel) (by decide) rfl rfl (Nat.le_of_ble_eq_true rfl) d_X_growByOne_11 ?_
    refine xw_aload_n C d_X_growByOne_14 0 rfl ?_
    refine xw_get C F_X_ok 0 rfl rfl 2 (by decide) T_124 rfl d_X_growByOne_15 ?_
    refine xw_iload_n C d_X_growByOne_18 1 rfl ?_
    refine xw_iconst C d_X_growByOne_19 (v := 0) (by decide) ?_
    refine xw_iload_n C d_X_growByOne_20 2 rfl ?_
    refine xw_iconst C d_X_growByOne_21 (v := 1) (by decide) ?_
    refine xw_iadd C d_X_growByOne_22 ?_
    obtain ⟨s8, hc7, h⟩ := bv_e h
    refine xw_callV_v C tj_Tg tj_Ng (n := 3) (As := [.int a1, .int (0 : Int32), .int (a2 + (1 : Int32))]) (rest := []) (c_Mem_setWord hc7) T_301 T_311 T_5 T_299 T_300 10 rfl rfl rfl (by decide +kernel) (by decide) rfl rfl (Nat.le_of_ble_eq_true rfl) d_X_growByOne_23 ?_
    refine xw_aload_n C d_X_growByOne_26 0 rfl ?_
    refine xw_get C F_X_ok 0 rfl rfl 2 (by decide) T_124 rfl d_X_growByOne_27 ?_
    refine xw_iload_n C d_X_growByOne_30 1 rfl ?_
    obtain ⟨s10, hc9, h⟩ := bv_e h
    refine xw_callV_v C tj_Tg tj_Ng (n := 1) (As := [.int a1]) (rest := []) (c_Mem_join hc9) T_305 T_316 T_5 T_303 T_304 10 rfl rfl rfl (by decide +kernel) (by decide) rfl rfl (Nat.le_of_ble_eq_true rfl) d_X_growByOne_31 ?_
    exact fin _ _ _ h d_X_growByOne_34
def f_X_write (a1 a2 a3 : Int32) (s0 : tj_S) : Option (Int32 × tj_S) :=
  if (s0 1 0) = (0 : Int32) then
    some ((0 : Int32), s0)
  else
    bd (f_X_isFile a1 s0) fun r3 s2 =>
    if r3 = (0 : Int32) then
      some ((0 : Int32), s2)
    else
      if a2 < (0 : Int32) then
        some ((0 : Int32), s2)
      else
        if a2 < (24 : Int32) then
          bd (f_Mem_fileLength a1 s2) fun r6 s5 =>
          if r6 < a2 then
            some ((0 : Int32), s5)
          else
            bd (f_X_blocksToTake a2 r6 s5) fun r9 s8 =>
            bd (f_Mem_takeableCount s8) fun r12 s11 =>
            if r9 ≤ r12 then
              bd (f_X_commitIfLarge s11) fun r15 s14 =>
              if r15 = (0 : Int32) then
                some ((0 : Int32), s14)
              else
                if a2 = r6 then
                  bv (f_X_growByOne a1 r6 s14) fun s19 =>
                  bv (f_X_setDataWord a1 a2 a3 s19) fun s21 =>
                  some ((1 : Int32), s21)
                else
                  bv (f_X_setDataWord a1 a2 a3 s14) fun s17 =>
                  some ((1 : Int32), s17)
            else
              some ((0 : Int32), s11)
        else
          some ((0 : Int32), s2)
set_option maxRecDepth 100000 in
set_option maxHeartbeats 4000000 in
theorem c_X_write {l : Launch} {D : va_G} {K : Nat → ClassId} {q : Nat → Nat} {a1 a2 a3 : Int32} {s0 sE : tj_S} {rE : Int32} (h : f_X_write a1 a2 a3 s0 = some (rE, sE)) : tj_Mi l D tj_cls (X_tys K) tj_N tj_T (X_cw K q) y_X_write b_X_write 5 .boolean 6 149 [.ref (q 0), .int a1, .int a2, .int a3] s0 rE sE := by
  refine tj_start_i (by decide +kernel) (Nat.le_of_ble_eq_true rfl) (fun Γ C fin => ?_)
  show tj_W Γ (X_cw K q) s0 [(0, .ref (q 0)), (1, .int a1), (2, .int a2), (3, .int a3)] 0 []
  unfold f_X_write at h
  refine xw_aload_n C d_X_write_0 0 rfl ?_
  refine xw_get C F_X_ok 0 rfl rfl 0 (by decide) T_122 rfl d_X_write_1 ?_
  refine xw_getN C F_Power_ok 1 rfl rfl 0 (by decide) "ThreeModeJournal" N_31 rfl d_X_write_4 ?_
  refine xw_if_eq C d_X_write_7 (tgt := 27) (by decide) (fun hc29 => ?_) (fun hc29 => ?_)
  · replace h := it_t hc29 h
    refine xw_iconst C d_X_write_27 (v := 0) (by decide) ?_
    exact fin _ _ _ _ h d_X_write_28 rfl
  · replace h := it_f hc29 h
    refine xw_iload_n C d_X_write_10 1 rfl ?_
    obtain ⟨r3, s2, hc1, h⟩ := bd_e h
    refine xw_callS_i C tj_Tg tj_Ng (n := 1) (As := [.int a1]) (rest := []) (c_X_isFile hc1) T_141 T_139 T_1 T_140 (by decide +kernel) (by decide) rfl rfl (Nat.le_of_ble_eq_true rfl) d_X_write_11 ?_
    refine xw_if_eq C d_X_write_14 (tgt := 27) (by decide) (fun hc28 => ?_) (fun hc28 => ?_)
    · replace h := it_t hc28 h
      refine xw_iconst C d_X_write_27 (v := 0) (by decide) ?_
      exact fin _ _ _ _ h d_X_write_28 rfl
    · replace h := it_f hc28 h
      refine xw_iload_n C d_X_write_17 2 rfl ?_
      refine xw_if_lt C d_X_write_18 (tgt := 27) (by decide) (fun hc27 => ?_) (fun hc27 => ?_)
      · replace h := it_t hc27 h
        refine xw_iconst C d_X_write_27 (v := 0) (by decide) ?_
        exact fin _ _ _ _ h d_X_write_28 rfl
      · replace h := it_f hc27 h
        refine xw_iload_n C d_X_write_21 2 rfl ?_
        refine xw_bipush C d_X_write_22 (v := 24) (by decide) ?_
        refine xw_icmp_lt C d_X_write_24 (tgt := 29) (by decide) (fun hc26 => ?_) (fun hc26 => ?_)
        · replace h := it_t hc26 h
          refine xw_aload_n C d_X_write_29 0 rfl ?_
          refine xw_get C F_X_ok 0 rfl rfl 2 (by decide) T_124 rfl d_X_write_30 ?_
          refine xw_iload_n C d_X_write_33 1 rfl ?_
          obtain ⟨r6, s5, hc4, h⟩ := bd_e h
          refine xw_callV_i C tj_Tg tj_Ng (n := 1) (As := [.int a1]) (rest := []) (c_Mem_fileLength hc4) T_145 T_142 T_5 T_143 T_144 10 rfl rfl rfl (by decide +kernel) (by decide) rfl rfl (Nat.le_of_ble_eq_true rfl) d_X_write_34 ?_
          refine xw_istore C d_X_write_37 (by decide) (lv1 := [(4, .int r6), (0, .ref (q 0)), (1, .int a1), (2, .int a2), (3, .int a3)]) rfl ?_
          refine xw_iload_n C d_X_write_39 3 rfl ?_
          refine xw_iload C d_X_write_40 0 rfl ?_
          refine xw_icmp_gt C d_X_write_42 (tgt := 61) (by decide) (fun hc25 => ?_) (fun hc25 => ?_)
          · replace h := it_t hc25 h
            refine xw_iconst C d_X_write_61 (v := 0) (by decide) ?_
            exact fin _ _ _ _ h d_X_write_62 rfl
          · replace h := it_f hc25 h
            refine xw_iload_n C d_X_write_45 3 rfl ?_
            refine xw_iload C d_X_write_46 0 rfl ?_
            obtain ⟨r9, s8, hc7, h⟩ := bd_e h
            refine xw_callS_i C tj_Tg tj_Ng (n := 2) (As := [.int a2, .int r6]) (rest := []) (c_X_blocksToTake hc7) T_155 T_153 T_1 T_154 (by decide +kernel) (by decide) rfl rfl (Nat.le_of_ble_eq_true rfl) d_X_write_48 ?_
            refine xw_aload_n C d_X_write_51 1 rfl ?_
            refine xw_get C F_X_ok 0 rfl rfl 2 (by decide) T_124 rfl d_X_write_52 ?_
            obtain ⟨r12, s11, hc10, h⟩ := bd_e h
            refine xw_callV_i C tj_Tg tj_Ng (n := 0) (As := []) (rest := [.int r9]) (c_Mem_takeableCount hc10) T_159 T_156 T_5 T_157 T_158 10 rfl rfl rfl (by decide +kernel) (by decide) rfl rfl (Nat.le_of_ble_eq_true rfl) d_X_write_55 ?_
            refine xw_icmp_le C d_X_write_58 (tgt := 63) (by decide) (fun hc24 => ?_) (fun hc24 => ?_)
            · replace h := it_t hc24 h
              refine xw_aload_n C d_X_write_63 1 rfl ?_
              obtain ⟨r15, s14, hc13, h⟩ := bd_e h
              refine xw_callV_i C tj_Tg tj_Ng (n := 0) (As := []) (rest := []) (c_X_commitIfLarge hc13) T_178 T_175 T_1 T_177 S_2 0 rfl rfl rfl (by decide +kernel) (by decide) rfl rfl (Nat.le_of_ble_eq_true rfl) d_X_write_64 ?_
              refine xw_if_ne C d_X_write_67 (tgt := 72) (by decide) (fun hc23 => ?_) (fun hc23 => ?_)
              · replace h := it_f hc23 h
                refine xw_iload_n C d_X_write_72 3 rfl ?_
                refine xw_iload C d_X_write_73 0 rfl ?_
                refine xw_icmp_ne C d_X_write_75 (tgt := 85) (by decide) (fun hc22 => ?_) (fun hc22 => ?_)
                · replace h := it_f hc22 h
                  refine xw_aload_n C d_X_write_85 1 rfl ?_
                  refine xw_iload_n C d_X_write_86 2 rfl ?_
                  refine xw_iload_n C d_X_write_87 3 rfl ?_
                  refine xw_iload_n C d_X_write_88 4 rfl ?_
                  obtain ⟨s17, hc16, h⟩ := bv_e h
                  refine xw_callV_v C tj_Tg tj_Ng (n := 3) (As := [.int a1, .int a2, .int a3]) (rest := []) (c_X_setDataWord hc16) T_320 T_317 T_1 T_319 S_14 0 rfl rfl rfl (by decide +kernel) (by decide) rfl rfl (Nat.le_of_ble_eq_true rfl) d_X_write_89 ?_
                  refine xw_iconst C d_X_write_92 (v := 1) (by decide) ?_
                  exact fin _ _ _ _ h d_X_write_93 rfl
                · replace h := it_t hc22 h
                  refine xw_aload_n C d_X_write_78 1 rfl ?_
                  refine xw_iload_n C d_X_write_79 2 rfl ?_
                  refine xw_iload C d_X_write_80 0 rfl ?_
                  obtain ⟨s19, hc18, h⟩ := bv_e h
                  refine xw_callV_v C tj_Tg tj_Ng (n := 2) (As := [.int a1, .int r6]) (rest := []) (c_X_growByOne hc18) T_289 T_286 T_1 T_288 S_11 0 rfl rfl rfl (by decide +kernel) (by decide) rfl rfl (Nat.le_of_ble_eq_true rfl) d_X_write_82 ?_
                  refine xw_aload_n C d_X_write_85 1 rfl ?_
                  refine xw_iload_n C d_X_write_86 2 rfl ?_
                  refine xw_iload_n C d_X_write_87 3 rfl ?_
                  refine xw_iload_n C d_X_write_88 4 rfl ?_
                  obtain ⟨s21, hc20, h⟩ := bv_e h
                  refine xw_callV_v C tj_Tg tj_Ng (n := 3) (As := [.int a1, .int a2, .int a3]) (rest := []) (c_X_setDataWord hc20) T_320 T_317 T_1 T_319 S_14 0 rfl rfl rfl (by decide +kernel) (by decide) rfl rfl (Nat.le_of_ble_eq_true rfl) d_X_write_89 ?_
                  refine xw_iconst C d_X_write_92 (v := 1) (by decide) ?_
                  exact fin _ _ _ _ h d_X_write_93 rfl
              · replace h := it_t hc23 h
                refine xw_iconst C d_X_write_70 (v := 0) (by decide) ?_
                exact fin _ _ _ _ h d_X_write_71 rfl
            · replace h := it_f hc24 h
              refine xw_iconst C d_X_write_61 (v := 0) (by decide) ?_
              exact fin _ _ _ _ h d_X_write_62 rfl
        · replace h := it_f hc26 h
          refine xw_iconst C d_X_write_27 (v := 0) (by decide) ?_
          exact fin _ _ _ _ h d_X_write_28 rfl
def f_X_dataBlocksFor (a0 : Int32) (s0 : tj_S) : Option (Int32 × tj_S) :=
  some ((((a0 + (4 : Int32)) - (1 : Int32)) / (4 : Int32)), s0)
set_option maxRecDepth 100000 in
set_option maxHeartbeats 4000000 in
theorem c_X_dataBlocksFor {l : Launch} {D : va_G} {K : Nat → ClassId} {q : Nat → Nat} {a0 : Int32} {s0 sE : tj_S} {rE : Int32} (h : f_X_dataBlocksFor a0 s0 = some (rE, sE)) : tj_Mi l D tj_cls (X_tys K) tj_N tj_T (X_cw K q) y_X_dataBlocksFor b_X_dataBlocksFor 1 .int 0 0 [.int a0] s0 rE sE := by
  refine tj_start_i (by decide +kernel) (Nat.le_of_ble_eq_true rfl) (fun Γ C fin => ?_)
  show tj_W Γ (X_cw K q) s0 [(0, .int a0)] 0 []
  unfold f_X_dataBlocksFor at h
  refine xw_iload_n C d_X_dataBlocksFor_0 0 rfl ?_
  refine xw_iconst C d_X_dataBlocksFor_1 (v := 4) (by decide) ?_
  refine xw_iadd C d_X_dataBlocksFor_2 ?_
  refine xw_iconst C d_X_dataBlocksFor_3 (v := 1) (by decide) ?_
  refine xw_isub C d_X_dataBlocksFor_4 ?_
  refine xw_iconst C d_X_dataBlocksFor_5 (v := 4) (by decide) ?_
  refine xw_idiv C d_X_dataBlocksFor_6 (by decide) ?_
  exact fin _ _ _ _ h d_X_dataBlocksFor_7 rfl
def f_Mem_freeBlock (a1 : Int32) (s0 : tj_S) : Option (tj_S) :=
  bd (f_X_isPoolBlock a1 s0) fun r3 s2 =>
  if r3 = (0 : Int32) then
    some s2
  else
    bd (f_Mem_blocksInUse s2) fun r6 s5 =>
    bv (f_Mem_setWord (6 : Int32) (0 : Int32) (r6 &&& (((1 : Int32) <<< ((a1 - (7 : Int32)) &&& 31)) ^^^ (-1 : Int32))) s5) fun s8 =>
    bv (f_Mem_join (6 : Int32) s8) fun s10 =>
    nm (up2 s10 10 3 ((s10 10 3) &&& (((1 : Int32) <<< (a1 &&& 31)) ^^^ (-1 : Int32)))) fun s11 =>
    bv (f_Mem_makeClean a1 s11) fun s13 =>
    some s13
set_option maxRecDepth 100000 in
set_option maxHeartbeats 4000000 in
theorem c_Mem_freeBlock {l : Launch} {D : va_G} {K : Nat → ClassId} {q : Nat → Nat} {a1 : Int32} {s0 sE : tj_S} (h : f_Mem_freeBlock a1 s0 = some sE) : tj_Mv l D tj_cls (X_tys K) tj_N tj_T (X_cw K q) y_Mem_freeBlock b_Mem_freeBlock 2 2 62 [.ref (q 10), .int a1] s0 sE := by
  refine tj_start_v (by decide +kernel) (Nat.le_of_ble_eq_true rfl) (fun Γ C fin => ?_)
  show tj_W Γ (X_cw K q) s0 [(0, .ref (q 10)), (1, .int a1)] 0 []
  unfold f_Mem_freeBlock at h
  refine xw_iload_n C d_Mem_freeBlock_0 1 rfl ?_
  obtain ⟨r3, s2, hc1, h⟩ := bd_e h
  refine xw_callSN_i C tj_Tg tj_Ng (n := 1) (As := [.int a1]) (rest := []) (c_X_isPoolBlock hc1) T_331 "ThreeModeJournal" N_329 T_1 T_330 (by decide +kernel) (by decide) rfl rfl (Nat.le_of_ble_eq_true rfl) d_Mem_freeBlock_1 ?_
  refine xw_if_ne C d_Mem_freeBlock_4 (tgt := 8) (by decide) (fun hc14 => ?_) (fun hc14 => ?_)
  · replace h := it_f hc14 h
    refine xw_aload_n C d_Mem_freeBlock_8 0 rfl ?_
    refine xw_bipush C d_Mem_freeBlock_9 (v := 6) (by decide) ?_
    refine xw_iconst C d_Mem_freeBlock_11 (v := 0) (by decide) ?_
    refine xw_aload_n C d_Mem_freeBlock_12 0 rfl ?_
    obtain ⟨r6, s5, hc4, h⟩ := bd_e h
    refine xw_callV_i C tj_Tg tj_Ng (n := 0) (As := []) (rest := [.int (0 : Int32), .int (6 : Int32), .ref (q 10)]) (c_Mem_blocksInUse hc4) T_167 T_164 T_5 T_166 S_1 10 rfl rfl rfl (by decide +kernel) (by decide) rfl rfl (Nat.le_of_ble_eq_true rfl) d_Mem_freeBlock_13 ?_
    refine xw_iconst C d_Mem_freeBlock_16 (v := 1) (by decide) ?_
    refine xw_iload_n C d_Mem_freeBlock_17 1 rfl ?_
    refine xw_bipush C d_Mem_freeBlock_18 (v := 7) (by decide) ?_
    refine xw_isub C d_Mem_freeBlock_20 ?_
    refine xw_ishl C d_Mem_freeBlock_21 ?_
    refine xw_iconst C d_Mem_freeBlock_22 (v := -1) (by decide) ?_
    refine xw_ixor C d_Mem_freeBlock_23 ?_
    refine xw_iand C d_Mem_freeBlock_24 ?_
    obtain ⟨s8, hc7, h⟩ := bv_e h
    refine xw_callV_v C tj_Tg tj_Ng (n := 3) (As := [.int (6 : Int32), .int (0 : Int32), .int (r6 &&& (((1 : Int32) <<< ((a1 - (7 : Int32)) &&& 31)) ^^^ (-1 : Int32)))]) (rest := []) (c_Mem_setWord hc7) T_301 T_298 T_5 T_299 T_300 10 rfl rfl rfl (by decide +kernel) (by decide) rfl rfl (Nat.le_of_ble_eq_true rfl) d_Mem_freeBlock_25 ?_
    refine xw_aload_n C d_Mem_freeBlock_28 0 rfl ?_
    refine xw_bipush C d_Mem_freeBlock_29 (v := 6) (by decide) ?_
    obtain ⟨s10, hc9, h⟩ := bv_e h
    refine xw_callV_v C tj_Tg tj_Ng (n := 1) (As := [.int (6 : Int32)]) (rest := []) (c_Mem_join hc9) T_305 T_302 T_5 T_303 T_304 10 rfl rfl rfl (by decide +kernel) (by decide) rfl rfl (Nat.le_of_ble_eq_true rfl) d_Mem_freeBlock_31 ?_
    refine xw_aload_n C d_Mem_freeBlock_34 0 rfl ?_
    refine xw_dup C d_Mem_freeBlock_35 rfl ?_
    refine xw_get C F_Mem_ok 10 rfl rfl 3 (by decide) T_104 rfl d_Mem_freeBlock_36 ?_
    refine xw_iconst C d_Mem_freeBlock_39 (v := 1) (by decide) ?_
    refine xw_iload_n C d_Mem_freeBlock_40 1 rfl ?_
    refine xw_ishl C d_Mem_freeBlock_41 ?_
    refine xw_iconst C d_Mem_freeBlock_42 (v := -1) (by decide) ?_
    refine xw_ixor C d_Mem_freeBlock_43 ?_
    refine xw_iand C d_Mem_freeBlock_44 ?_
    refine xw_put C F_Mem_ok 10 rfl rfl 3 (by decide) T_104 rfl rfl rfl (Nat.le_of_ble_eq_true rfl) d_Mem_freeBlock_45 (σ1 := (up2 s10 10 3 ((s10 10 3) &&& (((1 : Int32) <<< (a1 &&& 31)) ^^^ (-1 : Int32))))) rfl ?_
    refine xw_ns h (fun s11 h => ?_)
    refine xw_aload_n C d_Mem_freeBlock_48 0 rfl ?_
    refine xw_iload_n C d_Mem_freeBlock_49 1 rfl ?_
    obtain ⟨s13, hc12, h⟩ := bv_e h
    refine xw_callV_v C tj_Tg tj_Ng (n := 1) (As := [.int a1]) (rest := []) (c_Mem_makeClean hc12) T_219 T_347 T_5 T_217 T_218 10 rfl rfl rfl (by decide +kernel) (by decide) rfl rfl (Nat.le_of_ble_eq_true rfl) d_Mem_freeBlock_50 ?_
    exact fin _ _ _ h d_Mem_freeBlock_53
  · replace h := it_t hc14 h
    exact fin _ _ _ h d_Mem_freeBlock_7
def f_Log_hasLiveCopy_L2 (y2 : Int32) (k : Int32 → tj_S → Option (Int32 × tj_S)) : Nat → Int32 → tj_S → Option (Int32 × tj_S)
  | 0, _, _ => none
  | n + 1, x1, s3 =>
    if (s3 4 6) ≤ x1 then
      k x1 s3
    else
      bd (f_Log_liveCopies x1 s3) fun r6 s5 =>
      bd (f_X_hasBlock r6 y2 s5) fun r9 s8 =>
      if r9 = (0 : Int32) then
        nm (x1 + Int32.ofInt 1) fun x10 =>
        f_Log_hasLiveCopy_L2 y2 k n x10 s8
      else
        some ((1 : Int32), s8)
def f_Log_hasLiveCopy (a1 : Int32) (s0 : tj_S) : Option (Int32 × tj_S) :=
  f_Log_hasLiveCopy_L2 a1 (fun x15 s16 =>
    some ((0 : Int32), s16)) 100 (0 : Int32) s0
set_option maxRecDepth 100000 in
set_option maxHeartbeats 4000000 in
theorem c_Log_hasLiveCopy {l : Launch} {D : va_G} {K : Nat → ClassId} {q : Nat → Nat} {a1 : Int32} {s0 sE : tj_S} {rE : Int32} (h : f_Log_hasLiveCopy a1 s0 = some (rE, sE)) : tj_Mi l D tj_cls (X_tys K) tj_N tj_T (X_cw K q) y_Log_hasLiveCopy b_Log_hasLiveCopy 3 .boolean 3 66 [.ref (q 4), .int a1] s0 rE sE := by
  refine tj_start_i (by decide +kernel) (Nat.le_of_ble_eq_true rfl) (fun Γ C fin => ?_)
  show tj_W Γ (X_cw K q) s0 [(0, .ref (q 4)), (1, .int a1)] 0 []
  have L2 : ∀ (y2 : Int32) (k : Int32 → tj_S → Option (Int32 × tj_S)), (∀ (x13 : Int32) (s14 : tj_S), k x13 s14 = some (rE, sE) → tj_W Γ (X_cw K q) s14 [(0, .ref (q 4)), (1, .int y2), (2, .int x13)] 30 []) → ∀ (n : Nat) (x1 : Int32) (s3 : tj_S), f_Log_hasLiveCopy_L2 y2 k n x1 s3 = some (rE, sE) → tj_W Γ (X_cw K q) s3 [(0, .ref (q 4)), (1, .int y2), (2, .int x1)] 2 [] := by
    intro y2 k hk n
    induction n with
    | zero => intro x1 s3 h; rw [f_Log_hasLiveCopy_L2] at h; cases h
    | succ n ih =>
      intro x1 s3 h
      rw [f_Log_hasLiveCopy_L2] at h
      refine xw_iload_n C d_Log_hasLiveCopy_2 2 rfl ?_
      refine xw_aload_n C d_Log_hasLiveCopy_3 0 rfl ?_
      refine xw_get C F_Log_ok 4 rfl rfl 6 (by decide) T_56 rfl d_Log_hasLiveCopy_4 ?_
      refine xw_icmp_ge C d_Log_hasLiveCopy_7 (tgt := 30) (by decide) (fun hc12 => ?_) (fun hc12 => ?_)
      · replace h := it_t hc12 h
        exact xw_lv [0, 1, 2] rfl (hk _ _ h)
      · replace h := it_f hc12 h
        refine xw_aload_n C d_Log_hasLiveCopy_10 0 rfl ?_
        refine xw_iload_n C d_Log_hasLiveCopy_11 2 rfl ?_
        obtain ⟨r6, s5, hc4, h⟩ := bd_e h
        refine xw_callV_i C tj_Tg tj_Ng (n := 1) (As := [.int x1]) (rest := []) (c_Log_liveCopies hc4) T_244 T_357 T_4 T_242 T_243 4 rfl rfl rfl (by decide +kernel) (by decide) rfl rfl (Nat.le_of_ble_eq_true rfl) d_Log_hasLiveCopy_12 ?_
        refine xw_iload_n C d_Log_hasLiveCopy_15 1 rfl ?_
        obtain ⟨r9, s8, hc7, h⟩ := bd_e h
        refine xw_callSN_i C tj_Tg tj_Ng (n := 2) (As := [.int r6, .int y2]) (rest := []) (c_X_hasBlock hc7) T_255 "ThreeModeJournal" N_279 T_1 T_254 (by decide +kernel) (by decide) rfl rfl (Nat.le_of_ble_eq_true rfl) d_Log_hasLiveCopy_16 ?_
        refine xw_if_eq C d_Log_hasLiveCopy_19 (tgt := 24) (by decide) (fun hc11 => ?_) (fun hc11 => ?_)
        · replace h := it_t hc11 h
          refine xw_iinc C h (fun v => [(2, .int v), (0, .ref (q 4)), (1, .int y2)]) d_Log_hasLiveCopy_24 2 rfl (by decide) (fun _ => rfl) (fun x10 h => ?_)
          refine xw_goto C d_Log_hasLiveCopy_27 (tgt := 2) (by decide) ?_
          exact xw_lv [1, 2, 0] rfl (ih _ _ h)
        · replace h := it_f hc11 h
          refine xw_iconst C d_Log_hasLiveCopy_22 (v := 1) (by decide) ?_
          exact fin _ _ _ _ h d_Log_hasLiveCopy_23 rfl
  unfold f_Log_hasLiveCopy at h
  refine xw_iconst C d_Log_hasLiveCopy_0 (v := 0) (by decide) ?_
  refine xw_istore_n C d_Log_hasLiveCopy_1 rfl (by decide) (lv1 := [(2, .int (0 : Int32)), (0, .ref (q 4)), (1, .int a1)]) rfl ?_
  refine xw_lv [1, 2, 0] rfl (L2 _ _ (fun x15 s16 h => ?_) 100 _ _ h)
  refine xw_iconst C d_Log_hasLiveCopy_30 (v := 0) (by decide) ?_
  exact fin _ _ _ _ h d_Log_hasLiveCopy_31 rfl
def f_Mem_revoke (a1 : Int32) (s0 : tj_S) : Option (tj_S) :=
  bd (f_X_isBlock a1 s0) fun r3 s2 =>
  if r3 = (0 : Int32) then
    some s2
  else
    nm (up2 s2 10 4 ((s2 10 4) ||| ((1 : Int32) <<< (a1 &&& 31)))) fun s4 =>
    some s4
set_option maxRecDepth 100000 in
set_option maxHeartbeats 4000000 in
theorem c_Mem_revoke {l : Launch} {D : va_G} {K : Nat → ClassId} {q : Nat → Nat} {a1 : Int32} {s0 sE : tj_S} (h : f_Mem_revoke a1 s0 = some sE) : tj_Mv l D tj_cls (X_tys K) tj_N tj_T (X_cw K q) y_Mem_revoke b_Mem_revoke 2 1 20 [.ref (q 10), .int a1] s0 sE := by
  refine tj_start_v (by decide +kernel) (Nat.le_of_ble_eq_true rfl) (fun Γ C fin => ?_)
  show tj_W Γ (X_cw K q) s0 [(0, .ref (q 10)), (1, .int a1)] 0 []
  unfold f_Mem_revoke at h
  refine xw_iload_n C d_Mem_revoke_0 1 rfl ?_
  obtain ⟨r3, s2, hc1, h⟩ := bd_e h
  refine xw_callSN_i C tj_Tg tj_Ng (n := 1) (As := [.int a1]) (rest := []) (c_X_isBlock hc1) T_212 "ThreeModeJournal" N_306 T_1 T_211 (by decide +kernel) (by decide) rfl rfl (Nat.le_of_ble_eq_true rfl) d_Mem_revoke_1 ?_
  refine xw_if_eq C d_Mem_revoke_4 (tgt := 19) (by decide) (fun hc5 => ?_) (fun hc5 => ?_)
  · replace h := it_t hc5 h
    exact fin _ _ _ h d_Mem_revoke_19
  · replace h := it_f hc5 h
    refine xw_aload_n C d_Mem_revoke_7 0 rfl ?_
    refine xw_dup C d_Mem_revoke_8 rfl ?_
    refine xw_get C F_Mem_ok 10 rfl rfl 4 (by decide) T_106 rfl d_Mem_revoke_9 ?_
    refine xw_iconst C d_Mem_revoke_12 (v := 1) (by decide) ?_
    refine xw_iload_n C d_Mem_revoke_13 1 rfl ?_
    refine xw_ishl C d_Mem_revoke_14 ?_
    refine xw_ior C d_Mem_revoke_15 ?_
    refine xw_put C F_Mem_ok 10 rfl rfl 4 (by decide) T_106 rfl rfl rfl (Nat.le_of_ble_eq_true rfl) d_Mem_revoke_16 (σ1 := (up2 s2 10 4 ((s2 10 4) ||| ((1 : Int32) <<< (a1 &&& 31))))) rfl ?_
    refine xw_ns h (fun s4 h => ?_)
    exact fin _ _ _ h d_Mem_revoke_19
