def f_X_isFile (a0 : Int32) (s0 : tj_S) : Option (Int32 × tj_S) :=
  if a0 < (0 : Int32) then
    some ((0 : Int32), s0)
  else
    if (6 : Int32) ≤ a0 then
      some ((0 : Int32), s0)
    else
      some ((1 : Int32), s0)
set_option maxRecDepth 100000 in
set_option maxHeartbeats 4000000 in
theorem c_X_isFile {l : Launch} {D : va_G} {K : Nat → ClassId} {q : Nat → Nat} {a0 : Int32} {s0 sE : tj_S} {rE : Int32} (h : f_X_isFile a0 s0 = some (rE, sE)) : tj_Mi l D tj_cls (X_tys K) tj_N tj_T (X_cw K q) y_X_isFile b_X_isFile 1 .boolean 0 0 [.int a0] s0 rE sE := by
  refine tj_start_i (by decide +kernel) (Nat.le_of_ble_eq_true rfl) (fun Γ C fin => ?_)
  show tj_W Γ (X_cw K q) s0 [(0, .int a0)] 0 []
  unfold f_X_isFile at h
  refine xw_iload_n C d_X_isFile_0 0 rfl ?_
  refine xw_if_lt C d_X_isFile_1 (tgt := 14) (by decide) (fun hc2 => ?_) (fun hc2 => ?_)
  · replace h := it_t hc2 h
    refine xw_iconst C d_X_isFile_14 (v := 0) (by decide) ?_
    exact fin _ _ _ _ h d_X_isFile_15 rfl
  · replace h := it_f hc2 h
    refine xw_iload_n C d_X_isFile_4 0 rfl ?_
    refine xw_bipush C d_X_isFile_5 (v := 6) (by decide) ?_
    refine xw_icmp_ge C d_X_isFile_7 (tgt := 14) (by decide) (fun hc1 => ?_) (fun hc1 => ?_)
    · replace h := it_t hc1 h
      refine xw_iconst C d_X_isFile_14 (v := 0) (by decide) ?_
      exact fin _ _ _ _ h d_X_isFile_15 rfl
    · replace h := it_f hc1 h
      refine xw_iconst C d_X_isFile_10 (v := 1) (by decide) ?_
      refine xw_goto C d_X_isFile_11 (tgt := 15) (by decide) ?_
      exact fin _ _ _ _ h d_X_isFile_15 rfl
def f_X_isWord (a0 a1 : Int32) (s0 : tj_S) : Option (Int32 × tj_S) :=
  if a0 < (0 : Int32) then
    some ((0 : Int32), s0)
  else
    if (23 : Int32) ≤ a0 then
      some ((0 : Int32), s0)
    else
      if a1 < (0 : Int32) then
        some ((0 : Int32), s0)
      else
        if (4 : Int32) ≤ a1 then
          some ((0 : Int32), s0)
        else
          some ((1 : Int32), s0)
set_option maxRecDepth 100000 in
set_option maxHeartbeats 4000000 in
theorem c_X_isWord {l : Launch} {D : va_G} {K : Nat → ClassId} {q : Nat → Nat} {a0 a1 : Int32} {s0 sE : tj_S} {rE : Int32} (h : f_X_isWord a0 a1 s0 = some (rE, sE)) : tj_Mi l D tj_cls (X_tys K) tj_N tj_T (X_cw K q) y_X_isWord b_X_isWord 2 .boolean 0 0 [.int a0, .int a1] s0 rE sE := by
  refine tj_start_i (by decide +kernel) (Nat.le_of_ble_eq_true rfl) (fun Γ C fin => ?_)
  show tj_W Γ (X_cw K q) s0 [(0, .int a0), (1, .int a1)] 0 []
  unfold f_X_isWord at h
  refine xw_iload_n C d_X_isWord_0 0 rfl ?_
  refine xw_if_lt C d_X_isWord_1 (tgt := 23) (by decide) (fun hc4 => ?_) (fun hc4 => ?_)
  · replace h := it_t hc4 h
    refine xw_iconst C d_X_isWord_23 (v := 0) (by decide) ?_
    exact fin _ _ _ _ h d_X_isWord_24 rfl
  · replace h := it_f hc4 h
    refine xw_iload_n C d_X_isWord_4 0 rfl ?_
    refine xw_bipush C d_X_isWord_5 (v := 23) (by decide) ?_
    refine xw_icmp_ge C d_X_isWord_7 (tgt := 23) (by decide) (fun hc3 => ?_) (fun hc3 => ?_)
    · replace h := it_t hc3 h
      refine xw_iconst C d_X_isWord_23 (v := 0) (by decide) ?_
      exact fin _ _ _ _ h d_X_isWord_24 rfl
    · replace h := it_f hc3 h
      refine xw_iload_n C d_X_isWord_10 1 rfl ?_
      refine xw_if_lt C d_X_isWord_11 (tgt := 23) (by decide) (fun hc2 => ?_) (fun hc2 => ?_)
      · replace h := it_t hc2 h
        refine xw_iconst C d_X_isWord_23 (v := 0) (by decide) ?_
        exact fin _ _ _ _ h d_X_isWord_24 rfl
      · replace h := it_f hc2 h
        refine xw_iload_n C d_X_isWord_14 1 rfl ?_
        refine xw_iconst C d_X_isWord_15 (v := 4) (by decide) ?_
        refine xw_icmp_ge C d_X_isWord_16 (tgt := 23) (by decide) (fun hc1 => ?_) (fun hc1 => ?_)
        · replace h := it_t hc1 h
          refine xw_iconst C d_X_isWord_23 (v := 0) (by decide) ?_
          exact fin _ _ _ _ h d_X_isWord_24 rfl
        · replace h := it_f hc1 h
          refine xw_iconst C d_X_isWord_19 (v := 1) (by decide) ?_
          refine xw_goto C d_X_isWord_20 (tgt := 24) (by decide) ?_
          exact fin _ _ _ _ h d_X_isWord_24 rfl
def f_Mem_word (a1 a2 : Int32) (s0 : tj_S) : Option (Int32 × tj_S) :=
  bd (f_X_isWord a1 a2 s0) fun r3 s2 =>
  if r3 = (0 : Int32) then
    some ((0 : Int32), s2)
  else
    gd (inb ((a1 * (4 : Int32)) + a2) 92) <|
    some ((s2 11 (Int32.toNatClampNeg ((a1 * (4 : Int32)) + a2))), s2)
set_option maxRecDepth 100000 in
set_option maxHeartbeats 4000000 in
theorem c_Mem_word {l : Launch} {D : va_G} {K : Nat → ClassId} {q : Nat → Nat} {a1 a2 : Int32} {s0 sE : tj_S} {rE : Int32} (h : f_Mem_word a1 a2 s0 = some (rE, sE)) : tj_Mi l D tj_cls (X_tys K) tj_N tj_T (X_cw K q) y_Mem_word b_Mem_word 3 .int 1 21 [.ref (q 10), .int a1, .int a2] s0 rE sE := by
  refine tj_start_i (by decide +kernel) (Nat.le_of_ble_eq_true rfl) (fun Γ C fin => ?_)
  show tj_W Γ (X_cw K q) s0 [(0, .ref (q 10)), (1, .int a1), (2, .int a2)] 0 []
  unfold f_Mem_word at h
  refine xw_iload_n C d_Mem_word_0 1 rfl ?_
  refine xw_iload_n C d_Mem_word_1 2 rfl ?_
  obtain ⟨r3, s2, hc1, h⟩ := bd_e h
  refine xw_callSN_i C tj_Tg tj_Ng (n := 2) (As := [.int a1, .int a2]) (rest := []) (c_X_isWord hc1) T_152 "ThreeModeJournal" N_150 T_1 T_151 (by decide +kernel) (by decide) rfl rfl (Nat.le_of_ble_eq_true rfl) d_Mem_word_2 ?_
  refine xw_if_eq C d_Mem_word_5 (tgt := 21) (by decide) (fun hc5 => ?_) (fun hc5 => ?_)
  · replace h := it_t hc5 h
    refine xw_iconst C d_Mem_word_21 (v := 0) (by decide) ?_
    exact fin _ _ _ _ h d_Mem_word_22 rfl
  · replace h := it_f hc5 h
    refine xw_aload_n C d_Mem_word_8 0 rfl ?_
    refine xw_get C F_Mem_ok 10 rfl rfl 0 (by decide) T_98 rfl d_Mem_word_9 ?_
    refine xw_iload_n C d_Mem_word_12 1 rfl ?_
    refine xw_iconst C d_Mem_word_13 (v := 4) (by decide) ?_
    refine xw_imul C d_Mem_word_14 ?_
    refine xw_iload_n C d_Mem_word_15 2 rfl ?_
    refine xw_iadd C d_Mem_word_16 ?_
    obtain ⟨hb4, h⟩ := gd_e h
    refine xw_iald C 11 6 rfl rfl hb4 d_Mem_word_17 ?_
    refine xw_goto C d_Mem_word_18 (tgt := 22) (by decide) ?_
    exact fin _ _ _ _ h d_Mem_word_22 rfl
def f_Mem_fileLength (a1 : Int32) (s0 : tj_S) : Option (Int32 × tj_S) :=
  bd (f_Mem_word a1 (0 : Int32) s0) fun r3 s2 =>
  some (r3, s2)
set_option maxRecDepth 100000 in
set_option maxHeartbeats 4000000 in
theorem c_Mem_fileLength {l : Launch} {D : va_G} {K : Nat → ClassId} {q : Nat → Nat} {a1 : Int32} {s0 sE : tj_S} {rE : Int32} (h : f_Mem_fileLength a1 s0 = some (rE, sE)) : tj_Mi l D tj_cls (X_tys K) tj_N tj_T (X_cw K q) y_Mem_fileLength b_Mem_fileLength 2 .int 2 43 [.ref (q 10), .int a1] s0 rE sE := by
  refine tj_start_i (by decide +kernel) (Nat.le_of_ble_eq_true rfl) (fun Γ C fin => ?_)
  show tj_W Γ (X_cw K q) s0 [(0, .ref (q 10)), (1, .int a1)] 0 []
  unfold f_Mem_fileLength at h
  refine xw_aload_n C d_Mem_fileLength_0 0 rfl ?_
  refine xw_iload_n C d_Mem_fileLength_1 1 rfl ?_
  refine xw_iconst C d_Mem_fileLength_2 (v := 0) (by decide) ?_
  obtain ⟨r3, s2, hc1, h⟩ := bd_e h
  refine xw_callV_i C tj_Tg tj_Ng (n := 2) (As := [.int a1, .int (0 : Int32)]) (rest := []) (c_Mem_word hc1) T_149 T_146 T_5 T_147 T_148 10 rfl rfl rfl (by decide +kernel) (by decide) rfl rfl (Nat.le_of_ble_eq_true rfl) d_Mem_fileLength_3 ?_
  exact fin _ _ _ _ h d_Mem_fileLength_6 rfl
def f_X_blocksToTake (a0 a1 : Int32) (s0 : tj_S) : Option (Int32 × tj_S) :=
  if a0 = a1 then
    if (a0 - a0 / (4 : Int32) * (4 : Int32)) = (0 : Int32) then
      if (a0 / (4 : Int32)) = (2 : Int32) then
        some ((2 : Int32), s0)
      else
        some ((1 : Int32), s0)
    else
      some ((0 : Int32), s0)
  else
    some ((0 : Int32), s0)
set_option maxRecDepth 100000 in
set_option maxHeartbeats 4000000 in
theorem c_X_blocksToTake {l : Launch} {D : va_G} {K : Nat → ClassId} {q : Nat → Nat} {a0 a1 : Int32} {s0 sE : tj_S} {rE : Int32} (h : f_X_blocksToTake a0 a1 s0 = some (rE, sE)) : tj_Mi l D tj_cls (X_tys K) tj_N tj_T (X_cw K q) y_X_blocksToTake b_X_blocksToTake 2 .int 0 0 [.int a0, .int a1] s0 rE sE := by
  refine tj_start_i (by decide +kernel) (Nat.le_of_ble_eq_true rfl) (fun Γ C fin => ?_)
  show tj_W Γ (X_cw K q) s0 [(0, .int a0), (1, .int a1)] 0 []
  unfold f_X_blocksToTake at h
  refine xw_iload_n C d_X_blocksToTake_0 0 rfl ?_
  refine xw_iload_n C d_X_blocksToTake_1 1 rfl ?_
  refine xw_icmp_ne C d_X_blocksToTake_2 (tgt := 11) (by decide) (fun hc3 => ?_) (fun hc3 => ?_)
  · replace h := it_f hc3 h
    refine xw_iconst C d_X_blocksToTake_11 (v := 0) (by decide) ?_
    exact fin _ _ _ _ h d_X_blocksToTake_12 rfl
  · replace h := it_t hc3 h
    refine xw_iload_n C d_X_blocksToTake_5 0 rfl ?_
    refine xw_iconst C d_X_blocksToTake_6 (v := 4) (by decide) ?_
    refine xw_irem C d_X_blocksToTake_7 (by decide) ?_
    refine xw_if_eq C d_X_blocksToTake_8 (tgt := 13) (by decide) (fun hc2 => ?_) (fun hc2 => ?_)
    · replace h := it_t hc2 h
      refine xw_iload_n C d_X_blocksToTake_13 0 rfl ?_
      refine xw_iconst C d_X_blocksToTake_14 (v := 4) (by decide) ?_
      refine xw_idiv C d_X_blocksToTake_15 (by decide) ?_
      refine xw_iconst C d_X_blocksToTake_16 (v := 2) (by decide) ?_
      refine xw_icmp_ne C d_X_blocksToTake_17 (tgt := 24) (by decide) (fun hc1 => ?_) (fun hc1 => ?_)
      · replace h := it_f hc1 h
        refine xw_iconst C d_X_blocksToTake_24 (v := 1) (by decide) ?_
        exact fin _ _ _ _ h d_X_blocksToTake_25 rfl
      · replace h := it_t hc1 h
        refine xw_iconst C d_X_blocksToTake_20 (v := 2) (by decide) ?_
        refine xw_goto C d_X_blocksToTake_21 (tgt := 25) (by decide) ?_
        exact fin _ _ _ _ h d_X_blocksToTake_25 rfl
    · replace h := it_f hc2 h
      refine xw_iconst C d_X_blocksToTake_11 (v := 0) (by decide) ?_
      exact fin _ _ _ _ h d_X_blocksToTake_12 rfl
def f_Mem_blocksInUse (s0 : tj_S) : Option (Int32 × tj_S) :=
  gd (inb (24 : Int32) 92) <|
  some ((s0 11 (Int32.toNatClampNeg (24 : Int32))), s0)
set_option maxRecDepth 100000 in
set_option maxHeartbeats 4000000 in
theorem c_Mem_blocksInUse {l : Launch} {D : va_G} {K : Nat → ClassId} {q : Nat → Nat} {s0 sE : tj_S} {rE : Int32} (h : f_Mem_blocksInUse s0 = some (rE, sE)) : tj_Mi l D tj_cls (X_tys K) tj_N tj_T (X_cw K q) y_Mem_blocksInUse b_Mem_blocksInUse 1 .int 0 0 [.ref (q 10)] s0 rE sE := by
  refine tj_start_i (by decide +kernel) (Nat.le_of_ble_eq_true rfl) (fun Γ C fin => ?_)
  show tj_W Γ (X_cw K q) s0 [(0, .ref (q 10))] 0 []
  unfold f_Mem_blocksInUse at h
  refine xw_aload_n C d_Mem_blocksInUse_0 0 rfl ?_
  refine xw_get C F_Mem_ok 10 rfl rfl 0 (by decide) T_98 rfl d_Mem_blocksInUse_1 ?_
  refine xw_bipush C d_Mem_blocksInUse_4 (v := 24) (by decide) ?_
  obtain ⟨hb1, h⟩ := gd_e h
  refine xw_iald C 11 6 rfl rfl hb1 d_Mem_blocksInUse_6 ?_
  exact fin _ _ _ _ h d_Mem_blocksInUse_7 rfl
def f_Mem_takeable (s0 : tj_S) : Option (Int32 × tj_S) :=
  bd (f_Mem_blocksInUse s0) fun r3 s2 =>
  some ((((r3 ||| (s2 10 5)) ^^^ (-1 : Int32)) &&& (65535 : Int32)), s2)
set_option maxRecDepth 100000 in
set_option maxHeartbeats 4000000 in
theorem c_Mem_takeable {l : Launch} {D : va_G} {K : Nat → ClassId} {q : Nat → Nat} {s0 sE : tj_S} {rE : Int32} (h : f_Mem_takeable s0 = some (rE, sE)) : tj_Mi l D tj_cls (X_tys K) tj_N tj_T (X_cw K q) y_Mem_takeable b_Mem_takeable 1 .int 1 20 [.ref (q 10)] s0 rE sE := by
  refine tj_start_i (by decide +kernel) (Nat.le_of_ble_eq_true rfl) (fun Γ C fin => ?_)
  show tj_W Γ (X_cw K q) s0 [(0, .ref (q 10))] 0 []
  unfold f_Mem_takeable at h
  refine xw_aload_n C d_Mem_takeable_0 0 rfl ?_
  obtain ⟨r3, s2, hc1, h⟩ := bd_e h
  refine xw_callV_i C tj_Tg tj_Ng (n := 0) (As := []) (rest := []) (c_Mem_blocksInUse hc1) T_167 T_164 T_5 T_166 S_1 10 rfl rfl rfl (by decide +kernel) (by decide) rfl rfl (Nat.le_of_ble_eq_true rfl) d_Mem_takeable_1 ?_
  refine xw_aload_n C d_Mem_takeable_4 0 rfl ?_
  refine xw_get C F_Mem_ok 10 rfl rfl 5 (by decide) T_108 rfl d_Mem_takeable_5 ?_
  refine xw_ior C d_Mem_takeable_8 ?_
  refine xw_iconst C d_Mem_takeable_9 (v := -1) (by decide) ?_
  refine xw_ixor C d_Mem_takeable_10 ?_
  refine xw_ldc C T_168 d_Mem_takeable_11 ?_
  refine xw_iand C d_Mem_takeable_13 ?_
  exact fin _ _ _ _ h d_Mem_takeable_14 rfl
def f_Int_bitCount (a0 : Int32) (s0 : tj_S) : Option (Int32 × tj_S) :=
  nm ((a0 - (((Int32.toUInt32 a0 >>> (Int32.toUInt32 (1 : Int32) &&& Int32.toUInt32 31)).toInt32) &&& (1431655765 : Int32)))) fun x1 =>
  nm (((x1 &&& (858993459 : Int32)) + (((Int32.toUInt32 x1 >>> (Int32.toUInt32 (2 : Int32) &&& Int32.toUInt32 31)).toInt32) &&& (858993459 : Int32)))) fun x2 =>
  nm (((x2 + ((Int32.toUInt32 x2 >>> (Int32.toUInt32 (4 : Int32) &&& Int32.toUInt32 31)).toInt32)) &&& (252645135 : Int32))) fun x3 =>
  nm ((x3 + ((Int32.toUInt32 x3 >>> (Int32.toUInt32 (8 : Int32) &&& Int32.toUInt32 31)).toInt32))) fun x4 =>
  nm ((x4 + ((Int32.toUInt32 x4 >>> (Int32.toUInt32 (16 : Int32) &&& Int32.toUInt32 31)).toInt32))) fun x5 =>
  some ((x5 &&& (63 : Int32)), s0)
set_option maxRecDepth 100000 in
set_option maxHeartbeats 4000000 in
theorem c_Int_bitCount {l : Launch} {D : va_G} {K : Nat → ClassId} {q : Nat → Nat} {a0 : Int32} {s0 sE : tj_S} {rE : Int32} (h : f_Int_bitCount a0 s0 = some (rE, sE)) : tj_Mi l D tj_cls (X_tys K) tj_N tj_T (X_cw K q) y_Int_bitCount b_Int_bitCount 1 .int 0 0 [.int a0] s0 rE sE := by
  refine tj_start_i (by decide +kernel) (Nat.le_of_ble_eq_true rfl) (fun Γ C fin => ?_)
  show tj_W Γ (X_cw K q) s0 [(0, .int a0)] 0 []
  unfold f_Int_bitCount at h
  refine xw_iload_n C d_Int_bitCount_0 0 rfl ?_
  refine xw_iload_n C d_Int_bitCount_1 0 rfl ?_
  refine xw_iconst C d_Int_bitCount_2 (v := 1) (by decide) ?_
  refine xw_iushr C d_Int_bitCount_3 ?_
  refine xw_ldcw C T_172 d_Int_bitCount_4 ?_
  refine xw_iand C d_Int_bitCount_7 ?_
  refine xw_isub C d_Int_bitCount_8 ?_
  refine xw_ni h (fun x1 h => ?_)
  refine xw_istore_n C d_Int_bitCount_9 rfl (by decide) (lv1 := [(0, .int x1)]) rfl ?_
  refine xw_iload_n C d_Int_bitCount_10 0 rfl ?_
  refine xw_ldcw C T_173 d_Int_bitCount_11 ?_
  refine xw_iand C d_Int_bitCount_14 ?_
  refine xw_iload_n C d_Int_bitCount_15 0 rfl ?_
  refine xw_iconst C d_Int_bitCount_16 (v := 2) (by decide) ?_
  refine xw_iushr C d_Int_bitCount_17 ?_
  refine xw_ldcw C T_173 d_Int_bitCount_18 ?_
  refine xw_iand C d_Int_bitCount_21 ?_
  refine xw_iadd C d_Int_bitCount_22 ?_
  refine xw_ni h (fun x2 h => ?_)
  refine xw_istore_n C d_Int_bitCount_23 rfl (by decide) (lv1 := [(0, .int x2)]) rfl ?_
  refine xw_iload_n C d_Int_bitCount_24 0 rfl ?_
  refine xw_iload_n C d_Int_bitCount_25 0 rfl ?_
  refine xw_iconst C d_Int_bitCount_26 (v := 4) (by decide) ?_
  refine xw_iushr C d_Int_bitCount_27 ?_
  refine xw_iadd C d_Int_bitCount_28 ?_
  refine xw_ldcw C T_174 d_Int_bitCount_29 ?_
  refine xw_iand C d_Int_bitCount_32 ?_
  refine xw_ni h (fun x3 h => ?_)
  refine xw_istore_n C d_Int_bitCount_33 rfl (by decide) (lv1 := [(0, .int x3)]) rfl ?_
  refine xw_iload_n C d_Int_bitCount_34 0 rfl ?_
  refine xw_iload_n C d_Int_bitCount_35 0 rfl ?_
  refine xw_bipush C d_Int_bitCount_36 (v := 8) (by decide) ?_
  refine xw_iushr C d_Int_bitCount_38 ?_
  refine xw_iadd C d_Int_bitCount_39 ?_
  refine xw_ni h (fun x4 h => ?_)
  refine xw_istore_n C d_Int_bitCount_40 rfl (by decide) (lv1 := [(0, .int x4)]) rfl ?_
  refine xw_iload_n C d_Int_bitCount_41 0 rfl ?_
  refine xw_iload_n C d_Int_bitCount_42 0 rfl ?_
  refine xw_bipush C d_Int_bitCount_43 (v := 16) (by decide) ?_
  refine xw_iushr C d_Int_bitCount_45 ?_
  refine xw_iadd C d_Int_bitCount_46 ?_
  refine xw_ni h (fun x5 h => ?_)
  refine xw_istore_n C d_Int_bitCount_47 rfl (by decide) (lv1 := [(0, .int x5)]) rfl ?_
  refine xw_iload_n C d_Int_bitCount_48 0 rfl ?_
  refine xw_bipush C d_Int_bitCount_49 (v := 63) (by decide) ?_
  refine xw_iand C d_Int_bitCount_51 ?_
  exact fin _ _ _ _ h d_Int_bitCount_52 rfl
def f_Mem_takeableCount (s0 : tj_S) : Option (Int32 × tj_S) :=
  bd (f_Mem_takeable s0) fun r3 s2 =>
  bd (f_Int_bitCount r3 s2) fun r6 s5 =>
  some (r6, s5)
set_option maxRecDepth 100000 in
set_option maxHeartbeats 4000000 in
theorem c_Mem_takeableCount {l : Launch} {D : va_G} {K : Nat → ClassId} {q : Nat → Nat} {s0 sE : tj_S} {rE : Int32} (h : f_Mem_takeableCount s0 = some (rE, sE)) : tj_Mi l D tj_cls (X_tys K) tj_N tj_T (X_cw K q) y_Mem_takeableCount b_Mem_takeableCount 1 .int 2 40 [.ref (q 10)] s0 rE sE := by
  refine tj_start_i (by decide +kernel) (Nat.le_of_ble_eq_true rfl) (fun Γ C fin => ?_)
  show tj_W Γ (X_cw K q) s0 [(0, .ref (q 10))] 0 []
  unfold f_Mem_takeableCount at h
  refine xw_aload_n C d_Mem_takeableCount_0 0 rfl ?_
  obtain ⟨r3, s2, hc1, h⟩ := bd_e h
  refine xw_callV_i C tj_Tg tj_Ng (n := 0) (As := []) (rest := []) (c_Mem_takeable hc1) T_163 T_160 T_5 T_162 S_0 10 rfl rfl rfl (by decide +kernel) (by decide) rfl rfl (Nat.le_of_ble_eq_true rfl) d_Mem_takeableCount_1 ?_
  obtain ⟨r6, s5, hc4, h⟩ := bd_e h
  refine xw_callS_i C tj_Tg tj_Ng (n := 1) (As := [.int r3]) (rest := []) (c_Int_bitCount hc4) T_171 T_169 T_7 T_170 (by decide +kernel) (by decide) rfl rfl (Nat.le_of_ble_eq_true rfl) d_Mem_takeableCount_4 ?_
  exact fin _ _ _ _ h d_Mem_takeableCount_7 rfl
def f_X_blocksNaming (a0 : Int32) (s0 : tj_S) : Option (Int32 × tj_S) :=
  some ((((a0 + (4 : Int32)) - (1 : Int32)) / (4 : Int32)), s0)
set_option maxRecDepth 100000 in
set_option maxHeartbeats 4000000 in
theorem c_X_blocksNaming {l : Launch} {D : va_G} {K : Nat → ClassId} {q : Nat → Nat} {a0 : Int32} {s0 sE : tj_S} {rE : Int32} (h : f_X_blocksNaming a0 s0 = some (rE, sE)) : tj_Mi l D tj_cls (X_tys K) tj_N tj_T (X_cw K q) y_X_blocksNaming b_X_blocksNaming 1 .int 0 0 [.int a0] s0 rE sE := by
  refine tj_start_i (by decide +kernel) (Nat.le_of_ble_eq_true rfl) (fun Γ C fin => ?_)
  show tj_W Γ (X_cw K q) s0 [(0, .int a0)] 0 []
  unfold f_X_blocksNaming at h
  refine xw_iload_n C d_X_blocksNaming_0 0 rfl ?_
  refine xw_iconst C d_X_blocksNaming_1 (v := 4) (by decide) ?_
  refine xw_iadd C d_X_blocksNaming_2 ?_
  refine xw_iconst C d_X_blocksNaming_3 (v := 1) (by decide) ?_
  refine xw_isub C d_X_blocksNaming_4 ?_
  refine xw_iconst C d_X_blocksNaming_5 (v := 4) (by decide) ?_
  refine xw_idiv C d_X_blocksNaming_6 (by decide) ?_
  exact fin _ _ _ _ h d_X_blocksNaming_7 rfl
def f_Mem_logBlocksNeeded (s0 : tj_S) : Option (Int32 × tj_S) :=
  if (s0 10 3) = (0 : Int32) then
    some ((0 : Int32), s0)
  else
    bd (f_Int_bitCount (s0 10 3) s0) fun r3 s2 =>
    bd (f_X_blocksNaming r3 s2) fun r6 s5 =>
    bd (f_Int_bitCount (s5 10 4) s5) fun r9 s8 =>
    bd (f_X_blocksNaming r9 s8) fun r12 s11 =>
    some ((((r3 + r6) + r12) + (1 : Int32)), s11)
set_option maxRecDepth 100000 in
set_option maxHeartbeats 4000000 in
theorem c_Mem_logBlocksNeeded {l : Launch} {D : va_G} {K : Nat → ClassId} {q : Nat → Nat} {s0 sE : tj_S} {rE : Int32} (h : f_Mem_logBlocksNeeded s0 = some (rE, sE)) : tj_Mi l D tj_cls (X_tys K) tj_N tj_T (X_cw K q) y_Mem_logBlocksNeeded b_Mem_logBlocksNeeded 2 .int 1 20 [.ref (q 10)] s0 rE sE := by
  refine tj_start_i (by decide +kernel) (Nat.le_of_ble_eq_true rfl) (fun Γ C fin => ?_)
  show tj_W Γ (X_cw K q) s0 [(0, .ref (q 10))] 0 []
  unfold f_Mem_logBlocksNeeded at h
  refine xw_aload_n C d_Mem_logBlocksNeeded_0 0 rfl ?_
  refine xw_get C F_Mem_ok 10 rfl rfl 3 (by decide) T_104 rfl d_Mem_logBlocksNeeded_1 ?_
  refine xw_if_ne C d_Mem_logBlocksNeeded_4 (tgt := 9) (by decide) (fun hc13 => ?_) (fun hc13 => ?_)
  · replace h := it_f hc13 h
    refine xw_aload_n C d_Mem_logBlocksNeeded_9 0 rfl ?_
    refine xw_get C F_Mem_ok 10 rfl rfl 3 (by decide) T_104 rfl d_Mem_logBlocksNeeded_10 ?_
    obtain ⟨r3, s2, hc1, h⟩ := bd_e h
    refine xw_callS_i C tj_Tg tj_Ng (n := 1) (As := [.int (s0 10 3)]) (rest := []) (c_Int_bitCount hc1) T_171 T_169 T_7 T_170 (by decide +kernel) (by decide) rfl rfl (Nat.le_of_ble_eq_true rfl) d_Mem_logBlocksNeeded_13 ?_
    refine xw_istore_n C d_Mem_logBlocksNeeded_16 rfl (by decide) (lv1 := [(1, .int r3), (0, .ref (q 10))]) rfl ?_
    refine xw_iload_n C d_Mem_logBlocksNeeded_17 0 rfl ?_
    refine xw_iload_n C d_Mem_logBlocksNeeded_18 0 rfl ?_
    obtain ⟨r6, s5, hc4, h⟩ := bd_e h
    refine xw_callSN_i C tj_Tg tj_Ng (n := 1) (As := [.int r3]) (rest := [.int r3]) (c_X_blocksNaming hc4) T_185 "ThreeModeJournal" N_183 T_1 T_184 (by decide +kernel) (by decide) rfl rfl (Nat.le_of_ble_eq_true rfl) d_Mem_logBlocksNeeded_19 ?_
    refine xw_iadd C d_Mem_logBlocksNeeded_22 ?_
    refine xw_aload_n C d_Mem_logBlocksNeeded_23 1 rfl ?_
    refine xw_get C F_Mem_ok 10 rfl rfl 4 (by decide) T_106 rfl d_Mem_logBlocksNeeded_24 ?_
    obtain ⟨r9, s8, hc7, h⟩ := bd_e h
    refine xw_callS_i C tj_Tg tj_Ng (n := 1) (As := [.int (s5 10 4)]) (rest := [.int (r3 + r6)]) (c_Int_bitCount hc7) T_171 T_169 T_7 T_170 (by decide +kernel) (by decide) rfl rfl (Nat.le_of_ble_eq_true rfl) d_Mem_logBlocksNeeded_27 ?_
    obtain ⟨r12, s11, hc10, h⟩ := bd_e h
    refine xw_callSN_i C tj_Tg tj_Ng (n := 1) (As := [.int r9]) (rest := [.int (r3 + r6)]) (c_X_blocksNaming hc10) T_185 "ThreeModeJournal" N_183 T_1 T_184 (by decide +kernel) (by decide) rfl rfl (Nat.le_of_ble_eq_true rfl) d_Mem_logBlocksNeeded_30 ?_
    refine xw_iadd C d_Mem_logBlocksNeeded_33 ?_
    refine xw_iconst C d_Mem_logBlocksNeeded_34 (v := 1) (by decide) ?_
    refine xw_iadd C d_Mem_logBlocksNeeded_35 ?_
    exact fin _ _ _ _ h d_Mem_logBlocksNeeded_36 rfl
  · replace h := it_t hc13 h
    refine xw_iconst C d_Mem_logBlocksNeeded_7 (v := 0) (by decide) ?_
    exact fin _ _ _ _ h d_Mem_logBlocksNeeded_8 rfl
def f_Log_slot (a1 : Int32) (s0 : tj_S) : Option (Int32 × tj_S) :=
  some ((((s0 4 5) + a1) - ((s0 4 5) + a1) / (8 : Int32) * (8 : Int32)), s0)
set_option maxRecDepth 100000 in
set_option maxHeartbeats 4000000 in
theorem c_Log_slot {l : Launch} {D : va_G} {K : Nat → ClassId} {q : Nat → Nat} {a1 : Int32} {s0 sE : tj_S} {rE : Int32} (h : f_Log_slot a1 s0 = some (rE, sE)) : tj_Mi l D tj_cls (X_tys K) tj_N tj_T (X_cw K q) y_Log_slot b_Log_slot 2 .int 0 0 [.ref (q 4), .int a1] s0 rE sE := by
  refine tj_start_i (by decide +kernel) (Nat.le_of_ble_eq_true rfl) (fun Γ C fin => ?_)
  show tj_W Γ (X_cw K q) s0 [(0, .ref (q 4)), (1, .int a1)] 0 []
  unfold f_Log_slot at h
  refine xw_aload_n C d_Log_slot_0 0 rfl ?_
  refine xw_get C F_Log_ok 4 rfl rfl 5 (by decide) T_55 rfl d_Log_slot_1 ?_
  refine xw_iload_n C d_Log_slot_4 1 rfl ?_
  refine xw_iadd C d_Log_slot_5 ?_
  refine xw_bipush C d_Log_slot_6 (v := 8) (by decide) ?_
  refine xw_irem C d_Log_slot_8 (by decide) ?_
  exact fin _ _ _ _ h d_Log_slot_9 rfl
def f_Log_freePlaces_L5 (k : Int32 → Int32 → tj_S → Option (Int32 × tj_S)) : Nat → Int32 → Int32 → tj_S → Option (Int32 × tj_S)
  | 0, _, _, _ => none
  | n + 1, x1, x2, s3 =>
    if (s3 4 6) ≤ x2 then
      k x1 x2 s3
    else
      bd (f_Log_slot x2 s3) fun r6 s5 =>
      gd (inb r6 8) <|
      nm ((x1 - (s5 7 (Int32.toNatClampNeg r6)))) fun x8 =>
      nm (x2 + Int32.ofInt 1) fun x9 =>
      f_Log_freePlaces_L5 k n x8 x9 s5
def f_Log_freePlaces (s0 : tj_S) : Option (Int32 × tj_S) :=
  f_Log_freePlaces_L5 (fun x14 x15 s16 =>
    some (x14, s16)) 100 (24 : Int32) (0 : Int32) s0
set_option maxRecDepth 100000 in
set_option maxHeartbeats 4000000 in
theorem c_Log_freePlaces {l : Launch} {D : va_G} {K : Nat → ClassId} {q : Nat → Nat} {s0 sE : tj_S} {rE : Int32} (h : f_Log_freePlaces s0 = some (rE, sE)) : tj_Mi l D tj_cls (X_tys K) tj_N tj_T (X_cw K q) y_Log_freePlaces b_Log_freePlaces 3 .int 1 21 [.ref (q 4)] s0 rE sE := by
  refine tj_start_i (by decide +kernel) (Nat.le_of_ble_eq_true rfl) (fun Γ C fin => ?_)
  show tj_W Γ (X_cw K q) s0 [(0, .ref (q 4))] 0 []
  have L5 : ∀ (k : Int32 → Int32 → tj_S → Option (Int32 × tj_S)), (∀ (x11 x12 : Int32) (s13 : tj_S), k x11 x12 s13 = some (rE, sE) → tj_W Γ (X_cw K q) s13 [(0, .ref (q 4)), (1, .int x11), (2, .int x12)] 32 []) → ∀ (n : Nat) (x1 x2 : Int32) (s3 : tj_S), f_Log_freePlaces_L5 k n x1 x2 s3 = some (rE, sE) → tj_W Γ (X_cw K q) s3 [(0, .ref (q 4)), (1, .int x1), (2, .int x2)] 5 [] := by
    intro k hk n
    induction n with
    | zero => intro x1 x2 s3 h; rw [f_Log_freePlaces_L5] at h; cases h
    | succ n ih =>
      intro x1 x2 s3 h
      rw [f_Log_freePlaces_L5] at h
      refine xw_iload_n C d_Log_freePlaces_5 2 rfl ?_
      refine xw_aload_n C d_Log_freePlaces_6 0 rfl ?_
      refine xw_get C F_Log_ok 4 rfl rfl 6 (by decide) T_56 rfl d_Log_freePlaces_7 ?_
      refine xw_icmp_ge C d_Log_freePlaces_10 (tgt := 32) (by decide) (fun hc10 => ?_) (fun hc10 => ?_)
      · replace h := it_t hc10 h
        exact xw_lv [0, 1, 2] rfl (hk _ _ _ h)
      · replace h := it_f hc10 h
        refine xw_iload_n C d_Log_freePlaces_13 1 rfl ?_
        refine xw_aload_n C d_Log_freePlaces_14 0 rfl ?_
        refine xw_get C F_Log_ok 4 rfl rfl 2 (by decide) T_52 rfl d_Log_freePlaces_15 ?_
        refine xw_aload_n C d_Log_freePlaces_18 0 rfl ?_
        refine xw_iload_n C d_Log_freePlaces_19 2 rfl ?_
        obtain ⟨r6, s5, hc4, h⟩ := bd_e h
        refine xw_callV_i C tj_Tg tj_Ng (n := 1) (As := [.int x2]) (rest := [.ref (q 7), .int x1]) (c_Log_slot hc4) T_236 T_233 T_4 T_235 S_7 4 rfl rfl rfl (by decide +kernel) (by decide) rfl rfl (Nat.le_of_ble_eq_true rfl) d_Log_freePlaces_20 ?_
        obtain ⟨hb7, h⟩ := gd_e h
        refine xw_iald C 7 3 rfl rfl hb7 d_Log_freePlaces_23 ?_
        refine xw_isub C d_Log_freePlaces_24 ?_
        refine xw_ni h (fun x8 h => ?_)
        refine xw_istore_n C d_Log_freePlaces_25 rfl (by decide) (lv1 := [(1, .int x8), (0, .ref (q 4)), (2, .int x2)]) rfl ?_
        refine xw_iinc C h (fun v => [(2, .int v), (1, .int x8), (0, .ref (q 4))]) d_Log_freePlaces_26 2 rfl (by decide) (fun _ => rfl) (fun x9 h => ?_)
        refine xw_goto C d_Log_freePlaces_29 (tgt := 5) (by decide) ?_
        exact xw_lv [2, 1, 0] rfl (ih _ _ _ h)
  unfold f_Log_freePlaces at h
  refine xw_bipush C d_Log_freePlaces_0 (v := 24) (by decide) ?_
  refine xw_istore_n C d_Log_freePlaces_2 rfl (by decide) (lv1 := [(1, .int (24 : Int32)), (0, .ref (q 4))]) rfl ?_
  refine xw_iconst C d_Log_freePlaces_3 (v := 0) (by decide) ?_
  refine xw_istore_n C d_Log_freePlaces_4 rfl (by decide) (lv1 := [(2, .int (0 : Int32)), (1, .int (24 : Int32)), (0, .ref (q 4))]) rfl ?_
  refine xw_lv [2, 1, 0] rfl (L5 _ (fun x14 x15 s16 h => ?_) 100 _ _ _ h)
  refine xw_iload_n C d_Log_freePlaces_32 1 rfl ?_
  exact fin _ _ _ _ h d_Log_freePlaces_33 rfl
def f_Log_oldestInTheWayOf_L7 (y6 : Int32) (k : Int32 → Int32 → tj_S → Option (Int32 × tj_S)) : Nat → Int32 → Int32 → tj_S → Option (Int32 × tj_S)
  | 0, _, _, _ => none
  | n + 1, x4, x5, s7 =>
    if (s7 4 6) ≤ x5 then
      k x4 x5 s7
    else
      if y6 ≤ x4 then
        k x4 x5 s7
      else
        bd (f_Log_slot x5 s7) fun r10 s9 =>
        gd (inb r10 8) <|
        nm ((x4 + (s9 7 (Int32.toNatClampNeg r10)))) fun x12 =>
        nm (x5 + Int32.ofInt 1) fun x13 =>
        f_Log_oldestInTheWayOf_L7 y6 k n x12 x13 s9
def f_Log_oldestInTheWayOf (a1 : Int32) (s0 : tj_S) : Option (Int32 × tj_S) :=
  bd (f_Log_freePlaces s0) fun r3 s2 =>
  f_Log_oldestInTheWayOf_L7 a1 (fun x19 x20 s21 =>
    some (x20, s21)) 100 r3 (0 : Int32) s2
set_option maxRecDepth 100000 in
set_option maxHeartbeats 4000000 in
theorem c_Log_oldestInTheWayOf {l : Launch} {D : va_G} {K : Nat → ClassId} {q : Nat → Nat} {a1 : Int32} {s0 sE : tj_S} {rE : Int32} (h : f_Log_oldestInTheWayOf a1 s0 = some (rE, sE)) : tj_Mi l D tj_cls (X_tys K) tj_N tj_T (X_cw K q) y_Log_oldestInTheWayOf b_Log_oldestInTheWayOf 4 .int 2 43 [.ref (q 4), .int a1] s0 rE sE := by
  refine tj_start_i (by decide +kernel) (Nat.le_of_ble_eq_true rfl) (fun Γ C fin => ?_)
  show tj_W Γ (X_cw K q) s0 [(0, .ref (q 4)), (1, .int a1)] 0 []
  have L7 : ∀ (y6 : Int32) (k : Int32 → Int32 → tj_S → Option (Int32 × tj_S)), (∀ (x16 x17 : Int32) (s18 : tj_S), k x16 x17 s18 = some (rE, sE) → tj_W Γ (X_cw K q) s18 [(0, .ref (q 4)), (1, .int y6), (2, .int x16), (3, .int x17)] 39 []) → ∀ (n : Nat) (x4 x5 : Int32) (s7 : tj_S), f_Log_oldestInTheWayOf_L7 y6 k n x4 x5 s7 = some (rE, sE) → tj_W Γ (X_cw K q) s7 [(0, .ref (q 4)), (1, .int y6), (2, .int x4), (3, .int x5)] 7 [] := by
    intro y6 k hk n
    induction n with
    | zero => intro x4 x5 s7 h; rw [f_Log_oldestInTheWayOf_L7] at h; cases h
    | succ n ih =>
      intro x4 x5 s7 h
      rw [f_Log_oldestInTheWayOf_L7] at h
      refine xw_iload_n C d_Log_oldestInTheWayOf_7 3 rfl ?_
      refine xw_aload_n C d_Log_oldestInTheWayOf_8 0 rfl ?_
      refine xw_get C F_Log_ok 4 rfl rfl 6 (by decide) T_56 rfl d_Log_oldestInTheWayOf_9 ?_
      refine xw_icmp_ge C d_Log_oldestInTheWayOf_12 (tgt := 39) (by decide) (fun hc15 => ?_) (fun hc15 => ?_)
      · replace h := it_t hc15 h
        exact xw_lv [0, 1, 2, 3] rfl (hk _ _ _ h)
      · replace h := it_f hc15 h
        refine xw_iload_n C d_Log_oldestInTheWayOf_15 2 rfl ?_
        refine xw_iload_n C d_Log_oldestInTheWayOf_16 1 rfl ?_
        refine xw_icmp_ge C d_Log_oldestInTheWayOf_17 (tgt := 39) (by decide) (fun hc14 => ?_) (fun hc14 => ?_)
        · replace h := it_t hc14 h
          exact xw_lv [0, 1, 2, 3] rfl (hk _ _ _ h)
        · replace h := it_f hc14 h
          refine xw_iload_n C d_Log_oldestInTheWayOf_20 2 rfl ?_
          refine xw_aload_n C d_Log_oldestInTheWayOf_21 0 rfl ?_
          refine xw_get C F_Log_ok 4 rfl rfl 2 (by decide) T_52 rfl d_Log_oldestInTheWayOf_22 ?_
          refine xw_aload_n C d_Log_oldestInTheWayOf_25 0 rfl ?_
          refine xw_iload_n C d_Log_oldestInTheWayOf_26 3 rfl ?_
          obtain ⟨r10, s9, hc8, h⟩ := bd_e h
          refine xw_callV_i C tj_Tg tj_Ng (n := 1) (As := [.int x5]) (rest := [.ref (q 7), .int x4]) (c_Log_slot hc8) T_236 T_233 T_4 T_235 S_7 4 rfl rfl rfl (by decide +kernel) (by decide) rfl rfl (Nat.le_of_ble_eq_true rfl) d_Log_oldestInTheWayOf_27 ?_
          obtain ⟨hb11, h⟩ := gd_e h
          refine xw_iald C 7 3 rfl rfl hb11 d_Log_oldestInTheWayOf_30 ?_
          refine xw_iadd C d_Log_oldestInTheWayOf_31 ?_
          refine xw_ni h (fun x12 h => ?_)
          refine xw_istore_n C d_Log_oldestInTheWayOf_32 rfl (by decide) (lv1 := [(2, .int x12), (0, .ref (q 4)), (1, .int y6), (3, .int x5)]) rfl ?_
          refine xw_iinc C h (fun v => [(3, .int v), (2, .int x12), (0, .ref (q 4)), (1, .int y6)]) d_Log_oldestInTheWayOf_33 3 rfl (by decide) (fun _ => rfl) (fun x13 h => ?_)
          refine xw_goto C d_Log_oldestInTheWayOf_36 (tgt := 7) (by decide) ?_
          exact xw_lv [2, 3, 1, 0] rfl (ih _ _ _ h)
  unfold f_Log_oldestInTheWayOf at h
  refine xw_aload_n C d_Log_oldestInTheWayOf_0 0 rfl ?_
  obtain ⟨r3, s2, hc1, h⟩ := bd_e h
  refine xw_callV_i C tj_Tg tj_Ng (n := 0) (As := []) (rest := []) (c_Log_freePlaces hc1) T_232 T_229 T_4 T_230 T_231 4 rfl rfl rfl (by decide +kernel) (by decide) rfl rfl (Nat.le_of_ble_eq_true rfl) d_Log_oldestInTheWayOf_1 ?_
  refine xw_istore_n C d_Log_oldestInTheWayOf_4 rfl (by decide) (lv1 := [(2, .int r3), (0, .ref (q 4)), (1, .int a1)]) rfl ?_
  refine xw_iconst C d_Log_oldestInTheWayOf_5 (v := 0) (by decide) ?_
  refine xw_istore_n C d_Log_oldestInTheWayOf_6 rfl (by decide) (lv1 := [(3, .int (0 : Int32)), (2, .int r3), (0, .ref (q 4)), (1, .int a1)]) rfl ?_
  refine xw_lv [2, 3, 1, 0] rfl (L7 _ _ (fun x19 x20 s21 h => ?_) 100 _ _ _ h)
  refine xw_iload_n C d_Log_oldestInTheWayOf_39 3 rfl ?_
  exact fin _ _ _ _ h d_Log_oldestInTheWayOf_40 rfl
def f_Log_unionBehind_8_L7 (y4 : Int32) (k : Int32 → Int32 → tj_S → Option (Int32 × tj_S)) : Nat → Int32 → Int32 → tj_S → Option (Int32 × tj_S)
  | 0, _, _, _ => none
  | n + 1, x2, x3, s5 =>
    if (s5 4 6) ≤ x3 then
      k x2 x3 s5
    else
      bd (f_Log_slot x3 s5) fun r8 s7 =>
      gd (inb r8 8) <|
      nm ((x2 ||| (s7 8 (Int32.toNatClampNeg r8)))) fun x10 =>
      nm (x3 + Int32.ofInt 1) fun x11 =>
      f_Log_unionBehind_8_L7 y4 k n x10 x11 s7
def f_Log_unionBehind_8 (a1 : Int32) (s0 : tj_S) : Option (Int32 × tj_S) :=
  nm ((a1 + (1 : Int32))) fun x1 =>
  f_Log_unionBehind_8_L7 a1 (fun x16 x17 s18 =>
    some (x16, s18)) 100 (0 : Int32) x1 s0
set_option maxRecDepth 100000 in
set_option maxHeartbeats 4000000 in
theorem c_Log_unionBehind_8 {l : Launch} {D : va_G} {K : Nat → ClassId} {q : Nat → Nat} {a1 : Int32} {s0 sE : tj_S} {rE : Int32} (h : f_Log_unionBehind_8 a1 s0 = some (rE, sE)) : tj_Mi l D tj_cls (X_tys K) tj_N tj_T (X_cw K q) y_Log_unionBehind b_Log_unionBehind 5 .int 1 21 [.ref (q 4), .int a1, .ref (q 8)] s0 rE sE := by
  refine tj_start_i (by decide +kernel) (Nat.le_of_ble_eq_true rfl) (fun Γ C fin => ?_)
  show tj_W Γ (X_cw K q) s0 [(0, .ref (q 4)), (1, .int a1), (2, .ref (q 8))] 0 []
  have L7 : ∀ (y4 : Int32) (k : Int32 → Int32 → tj_S → Option (Int32 × tj_S)), (∀ (x13 x14 : Int32) (s15 : tj_S), k x13 x14 s15 = some (rE, sE) → tj_W Γ (X_cw K q) s15 [(0, .ref (q 4)), (1, .int y4), (2, .ref (q 8)), (3, .int x13), (4, .int x14)] 33 []) → ∀ (n : Nat) (x2 x3 : Int32) (s5 : tj_S), f_Log_unionBehind_8_L7 y4 k n x2 x3 s5 = some (rE, sE) → tj_W Γ (X_cw K q) s5 [(0, .ref (q 4)), (1, .int y4), (2, .ref (q 8)), (3, .int x2), (4, .int x3)] 7 [] := by
    intro y4 k hk n
    induction n with
    | zero => intro x2 x3 s5 h; rw [f_Log_unionBehind_8_L7] at h; cases h
    | succ n ih =>
      intro x2 x3 s5 h
      rw [f_Log_unionBehind_8_L7] at h
      refine xw_iload C d_Log_unionBehind_7 4 rfl ?_
      refine xw_aload_n C d_Log_unionBehind_9 0 rfl ?_
      refine xw_get C F_Log_ok 4 rfl rfl 6 (by decide) T_56 rfl d_Log_unionBehind_10 ?_
      refine xw_icmp_ge C d_Log_unionBehind_13 (tgt := 33) (by decide) (fun hc12 => ?_) (fun hc12 => ?_)
      · replace h := it_t hc12 h
        exact xw_lv [0, 1, 2, 3, 4] rfl (hk _ _ _ h)
      · replace h := it_f hc12 h
        refine xw_iload_n C d_Log_unionBehind_16 3 rfl ?_
        refine xw_aload_n C d_Log_unionBehind_17 2 rfl ?_
        refine xw_aload_n C d_Log_unionBehind_18 0 rfl ?_
        refine xw_iload C d_Log_unionBehind_19 4 rfl ?_
        obtain ⟨r8, s7, hc6, h⟩ := bd_e h
        refine xw_callV_i C tj_Tg tj_Ng (n := 1) (As := [.int x3]) (rest := [.ref (q 8), .int x2]) (c_Log_slot hc6) T_236 T_233 T_4 T_235 S_7 4 rfl rfl rfl (by decide +kernel) (by decide) rfl rfl (Nat.le_of_ble_eq_true rfl) d_Log_unionBehind_21 ?_
        obtain ⟨hb9, h⟩ := gd_e h
        refine xw_iald C 8 4 rfl rfl hb9 d_Log_unionBehind_24 ?_
        refine xw_ior C d_Log_unionBehind_25 ?_
        refine xw_ni h (fun x10 h => ?_)
        refine xw_istore_n C d_Log_unionBehind_26 rfl (by decide) (lv1 := [(3, .int x10), (0, .ref (q 4)), (1, .int y4), (2, .ref (q 8)), (4, .int x3)]) rfl ?_
        refine xw_iinc C h (fun v => [(4, .int v), (3, .int x10), (0, .ref (q 4)), (1, .int y4), (2, .ref (q 8))]) d_Log_unionBehind_27 4 rfl (by decide) (fun _ => rfl) (fun x11 h => ?_)
        refine xw_goto C d_Log_unionBehind_30 (tgt := 7) (by decide) ?_
        exact xw_lv [2, 3, 4, 1, 0] rfl (ih _ _ _ h)
  unfold f_Log_unionBehind_8 at h
  refine xw_iconst C d_Log_unionBehind_0 (v := 0) (by decide) ?_
  refine xw_istore_n C d_Log_unionBehind_1 rfl (by decide) (lv1 := [(3, .int (0 : Int32)), (0, .ref (q 4)), (1, .int a1), (2, .ref (q 8))]) rfl ?_
  refine xw_iload_n C d_Log_unionBehind_2 2 rfl ?_
  refine xw_iconst C d_Log_unionBehind_3 (v := 1) (by decide) ?_
  refine xw_iadd C d_Log_unionBehind_4 ?_
  refine xw_ni h (fun x1 h => ?_)
  refine xw_istore C d_Log_unionBehind_5 (by decide) (lv1 := [(4, .int x1), (3, .int (0 : Int32)), (0, .ref (q 4)), (1, .int a1), (2, .ref (q 8))]) rfl ?_
  refine xw_lv [2, 3, 4, 1, 0] rfl (L7 _ _ (fun x16 x17 s18 h => ?_) 100 _ _ _ h)
  refine xw_iload_n C d_Log_unionBehind_33 3 rfl ?_
  exact fin _ _ _ _ h d_Log_unionBehind_34 rfl
def f_Log_unionBehind_9_L7 (y4 : Int32) (k : Int32 → Int32 → tj_S → Option (Int32 × tj_S)) : Nat → Int32 → Int32 → tj_S → Option (Int32 × tj_S)
  | 0, _, _, _ => none
  | n + 1, x2, x3, s5 =>
    if (s5 4 6) ≤ x3 then
      k x2 x3 s5
    else
      bd (f_Log_slot x3 s5) fun r8 s7 =>
      gd (inb r8 8) <|
      nm ((x2 ||| (s7 9 (Int32.toNatClampNeg r8)))) fun x10 =>
      nm (x3 + Int32.ofInt 1) fun x11 =>
      f_Log_unionBehind_9_L7 y4 k n x10 x11 s7
def f_Log_unionBehind_9 (a1 : Int32) (s0 : tj_S) : Option (Int32 × tj_S) :=
  nm ((a1 + (1 : Int32))) fun x1 =>
  f_Log_unionBehind_9_L7 a1 (fun x16 x17 s18 =>
    some (x16, s18)) 100 (0 : Int32) x1 s0
set_option maxRecDepth 100000 in
set_option maxHeartbeats 4000000 in
theorem c_Log_unionBehind_9 {l : Launch} {D : va_G} {K : Nat → ClassId} {q : Nat → Nat} {a1 : Int32} {s0 sE : tj_S} {rE : Int32} (h : f_Log_unionBehind_9 a1 s0 = some (rE, sE)) : tj_Mi l D tj_cls (X_tys K) tj_N tj_T (X_cw K q) y_Log_unionBehind b_Log_unionBehind 5 .int 1 21 [.ref (q 4), .int a1, .ref (q 9)] s0 rE sE := by
  refine tj_start_i (by decide +kernel) (Nat.le_of_ble_eq_true rfl) (fun Γ C fin => ?_)
  show tj_W Γ (X_cw K q) s0 [(0, .ref (q 4)), (1, .int a1), (2, .ref (q 9))] 0 []
  have L7 : ∀ (y4 : Int32) (k : Int32 → Int32 → tj_S → Option (Int32 × tj_S)), (∀ (x13 x14 : Int32) (s15 : tj_S), k x13 x14 s15 = some (rE, sE) → tj_W Γ (X_cw K q) s15 [(0, .ref (q 4)), (1, .int y4), (2, .ref (q 9)), (3, .int x13), (4, .int x14)] 33 []) → ∀ (n : Nat) (x2 x3 : Int32) (s5 : tj_S), f_Log_unionBehind_9_L7 y4 k n x2 x3 s5 = some (rE, sE) → tj_W Γ (X_cw K q) s5 [(0, .ref (q 4)), (1, .int y4), (2, .ref (q 9)), (3, .int x2), (4, .int x3)] 7 [] := by
    intro y4 k hk n
    induction n with
    | zero => intro x2 x3 s5 h; rw [f_Log_unionBehind_9_L7] at h; cases h
    | succ n ih =>
      intro x2 x3 s5 h
      rw [f_Log_unionBehind_9_L7] at h
      refine xw_iload C d_Log_unionBehind_7 4 rfl ?_
      refine xw_aload_n C d_Log_unionBehind_9 0 rfl ?_
      refine xw_get C F_Log_ok 4 rfl rfl 6 (by decide) T_56 rfl d_Log_unionBehind_10 ?_
      refine xw_icmp_ge C d_Log_unionBehind_13 (tgt := 33) (by decide) (fun hc12 => ?_) (fun hc12 => ?_)
      · replace h := it_t hc12 h
        exact xw_lv [0, 1, 2, 3, 4] rfl (hk _ _ _ h)
      · replace h := it_f hc12 h
        refine xw_iload_n C d_Log_unionBehind_16 3 rfl ?_
        refine xw_aload_n C d_Log_unionBehind_17 2 rfl ?_
        refine xw_aload_n C d_Log_unionBehind_18 0 rfl ?_
        refine xw_iload C d_Log_unionBehind_19 4 rfl ?_
        obtain ⟨r8, s7, hc6, h⟩ := bd_e h
        refine xw_callV_i C tj_Tg tj_Ng (n := 1) (As := [.int x3]) (rest := [.ref (q 9), .int x2]) (c_Log_slot hc6) T_236 T_233 T_4 T_235 S_7 4 rfl rfl rfl (by decide +kernel) (by decide) rfl rfl (Nat.le_of_ble_eq_true rfl) d_Log_unionBehind_21 ?_
        obtain ⟨hb9, h⟩ := gd_e h
        refine xw_iald C 9 5 rfl rfl hb9 d_Log_unionBehind_24 ?_
        refine xw_ior C d_Log_unionBehind_25 ?_
        refine xw_ni h (fun x10 h => ?_)
        refine xw_istore_n C d_Log_unionBehind_26 rfl (by decide) (lv1 := [(3, .int x10), (0, .ref (q 4)), (1, .int y4), (2, .ref (q 9)), (4, .int x3)]) rfl ?_
        refine xw_iinc C h (fun v => [(4, .int v), (3, .int x10), (0, .ref (q 4)), (1, .int y4), (2, .ref (q 9))]) d_Log_unionBehind_27 4 rfl (by decide) (fun _ => rfl) (fun x11 h => ?_)
        refine xw_goto C d_Log_unionBehind_30 (tgt := 7) (by decide) ?_
        exact xw_lv [2, 3, 4, 1, 0] rfl (ih _ _ _ h)
  unfold f_Log_unionBehind_9 at h
  refine xw_iconst C d_Log_unionBehind_0 (v := 0) (by decide) ?_
  refine xw_istore_n C d_Log_unionBehind_1 rfl (by decide) (lv1 := [(3, .int (0 : Int32)), (0, .ref (q 4)), (1, .int a1), (2, .ref (q 9))]) rfl ?_
  refine xw_iload_n C d_Log_unionBehind_2 2 rfl ?_
  refine xw_iconst C d_Log_unionBehind_3 (v := 1) (by decide) ?_
  refine xw_iadd C d_Log_unionBehind_4 ?_
  refine xw_ni h (fun x1 h => ?_)
  refine xw_istore C d_Log_unionBehind_5 (by decide) (lv1 := [(4, .int x1), (3, .int (0 : Int32)), (0, .ref (q 4)), (1, .int a1), (2, .ref (q 9))]) rfl ?_
  refine xw_lv [2, 3, 4, 1, 0] rfl (L7 _ _ (fun x16 x17 s18 h => ?_) 100 _ _ _ h)
  refine xw_iload_n C d_Log_unionBehind_33 3 rfl ?_
  exact fin _ _ _ _ h d_Log_unionBehind_34 rfl
def f_Log_liveCopies (a1 : Int32) (s0 : tj_S) : Option (Int32 × tj_S) :=
  bd (f_Log_slot a1 s0) fun r3 s2 =>
  gd (inb r3 8) <|
  bd (f_Log_unionBehind_8 a1 s2) fun r7 s6 =>
  bd (f_Log_unionBehind_9 a1 s6) fun r10 s9 =>
  some (((s2 8 (Int32.toNatClampNeg r3)) &&& ((r7 ||| r10) ^^^ (-1 : Int32))), s9)
set_option maxRecDepth 100000 in
set_option maxHeartbeats 4000000 in
theorem c_Log_liveCopies {l : Launch} {D : va_G} {K : Nat → ClassId} {q : Nat → Nat} {a1 : Int32} {s0 sE : tj_S} {rE : Int32} (h : f_Log_liveCopies a1 s0 = some (rE, sE)) : tj_Mi l D tj_cls (X_tys K) tj_N tj_T (X_cw K q) y_Log_liveCopies b_Log_liveCopies 2 .int 2 45 [.ref (q 4), .int a1] s0 rE sE := by
  refine tj_start_i (by decide +kernel) (Nat.le_of_ble_eq_true rfl) (fun Γ C fin => ?_)
  show tj_W Γ (X_cw K q) s0 [(0, .ref (q 4)), (1, .int a1)] 0 []
  unfold f_Log_liveCopies at h
  refine xw_aload_n C d_Log_liveCopies_0 0 rfl ?_
  refine xw_get C F_Log_ok 4 rfl rfl 3 (by decide) T_53 rfl d_Log_liveCopies_1 ?_
  refine xw_aload_n C d_Log_liveCopies_4 0 rfl ?_
  refine xw_iload_n C d_Log_liveCopies_5 1 rfl ?_
  obtain ⟨r3, s2, hc1, h⟩ := bd_e h
  refine xw_callV_i C tj_Tg tj_Ng (n := 1) (As := [.int a1]) (rest := [.ref (q 8)]) (c_Log_slot hc1) T_236 T_233 T_4 T_235 S_7 4 rfl rfl rfl (by decide +kernel) (by decide) rfl rfl (Nat.le_of_ble_eq_true rfl) d_Log_liveCopies_6 ?_
  obtain ⟨hb4, h⟩ := gd_e h
  refine xw_iald C 8 4 rfl rfl hb4 d_Log_liveCopies_9 ?_
  refine xw_aload_n C d_Log_liveCopies_10 0 rfl ?_
  refine xw_iload_n C d_Log_liveCopies_11 1 rfl ?_
  refine xw_aload_n C d_Log_liveCopies_12 0 rfl ?_
  refine xw_get C F_Log_ok 4 rfl rfl 3 (by decide) T_53 rfl d_Log_liveCopies_13 ?_
  obtain ⟨r7, s6, hc5, h⟩ := bd_e h
  refine xw_callV_i C tj_Tg tj_Ng (n := 2) (As := [.int a1, .ref (q 8)]) (rest := [.int (s2 8 (Int32.toNatClampNeg r3))]) (c_Log_unionBehind_8 hc5) T_248 T_245 T_4 T_247 S_8 4 rfl rfl rfl (by decide +kernel) (by decide) rfl rfl (Nat.le_of_ble_eq_true rfl) d_Log_liveCopies_16 ?_
  refine xw_aload_n C d_Log_liveCopies_19 0 rfl ?_
  refine xw_iload_n C d_Log_liveCopies_20 1 rfl ?_
  refine xw_aload_n C d_Log_liveCopies_21 0 rfl ?_
  refine xw_get C F_Log_ok 4 rfl rfl 4 (by decide) T_54 rfl d_Log_liveCopies_22 ?_
  obtain ⟨r10, s9, hc8, h⟩ := bd_e h
  refine xw_callV_i C tj_Tg tj_Ng (n := 2) (As := [.int a1, .ref (q 9)]) (rest := [.int r7, .int (s2 8 (Int32.toNatClampNeg r3))]) (c_Log_unionBehind_9 hc8) T_248 T_245 T_4 T_247 S_8 4 rfl rfl rfl (by decide +kernel) (by decide) rfl rfl (Nat.le_of_ble_eq_true rfl) d_Log_liveCopies_25 ?_
  refine xw_ior C d_Log_liveCopies_28 ?_
  refine xw_iconst C d_Log_liveCopies_29 (v := -1) (by decide) ?_
  refine xw_ixor C d_Log_liveCopies_30 ?_
  refine xw_iand C d_Log_liveCopies_31 ?_
  exact fin _ _ _ _ h d_Log_liveCopies_32 rfl
def f_X_isBlock (a0 : Int32) (s0 : tj_S) : Option (Int32 × tj_S) :=
  if a0 < (0 : Int32) then
    some ((0 : Int32), s0)
  else
    if (23 : Int32) ≤ a0 then
      some ((0 : Int32), s0)
    else
      some ((1 : Int32), s0)
set_option maxRecDepth 100000 in
set_option maxHeartbeats 4000000 in
theorem c_X_isBlock {l : Launch} {D : va_G} {K : Nat → ClassId} {q : Nat → Nat} {a0 : Int32} {s0 sE : tj_S} {rE : Int32} (h : f_X_isBlock a0 s0 = some (rE, sE)) : tj_Mi l D tj_cls (X_tys K) tj_N tj_T (X_cw K q) y_X_isBlock b_X_isBlock 1 .boolean 0 0 [.int a0] s0 rE sE := by
  refine tj_start_i (by decide +kernel) (Nat.le_of_ble_eq_true rfl) (fun Γ C fin => ?_)
  show tj_W Γ (X_cw K q) s0 [(0, .int a0)] 0 []
  unfold f_X_isBlock at h
  refine xw_iload_n C d_X_isBlock_0 0 rfl ?_
  refine xw_if_lt C d_X_isBlock_1 (tgt := 14) (by decide) (fun hc2 => ?_) (fun hc2 => ?_)
  · replace h := it_t hc2 h
    refine xw_iconst C d_X_isBlock_14 (v := 0) (by decide) ?_
    exact fin _ _ _ _ h d_X_isBlock_15 rfl
  · replace h := it_f hc2 h
    refine xw_iload_n C d_X_isBlock_4 0 rfl ?_
    refine xw_bipush C d_X_isBlock_5 (v := 23) (by decide) ?_
    refine xw_icmp_ge C d_X_isBlock_7 (tgt := 14) (by decide) (fun hc1 => ?_) (fun hc1 => ?_)
    · replace h := it_t hc1 h
      refine xw_iconst C d_X_isBlock_14 (v := 0) (by decide) ?_
      exact fin _ _ _ _ h d_X_isBlock_15 rfl
    · replace h := it_f hc1 h
      refine xw_iconst C d_X_isBlock_10 (v := 1) (by decide) ?_
      refine xw_goto C d_X_isBlock_11 (tgt := 15) (by decide) ?_
      exact fin _ _ _ _ h d_X_isBlock_15 rfl
def f_X_hasBlock (a0 a1 : Int32) (s0 : tj_S) : Option (Int32 × tj_S) :=
  bd (f_X_isBlock a1 s0) fun r3 s2 =>
  if r3 = (0 : Int32) then
    some ((0 : Int32), s2)
  else
    if ((a0 >>> (a1 &&& 31)) &&& (1 : Int32)) = (0 : Int32) then
      some ((0 : Int32), s2)
    else
      some ((1 : Int32), s2)
set_option maxRecDepth 100000 in
set_option maxHeartbeats 4000000 in
theorem c_X_hasBlock {l : Launch} {D : va_G} {K : Nat → ClassId} {q : Nat → Nat} {a0 a1 : Int32} {s0 sE : tj_S} {rE : Int32} (h : f_X_hasBlock a0 a1 s0 = some (rE, sE)) : tj_Mi l D tj_cls (X_tys K) tj_N tj_T (X_cw K q) y_X_hasBlock b_X_hasBlock 2 .boolean 1 20 [.int a0, .int a1] s0 rE sE := by
  refine tj_start_i (by decide +kernel) (Nat.le_of_ble_eq_true rfl) (fun Γ C fin => ?_)
  show tj_W Γ (X_cw K q) s0 [(0, .int a0), (1, .int a1)] 0 []
  unfold f_X_hasBlock at h
  refine xw_iload_n C d_X_hasBlock_0 1 rfl ?_
  obtain ⟨r3, s2, hc1, h⟩ := bd_e h
  refine xw_callS_i C tj_Tg tj_Ng (n := 1) (As := [.int a1]) (rest := []) (c_X_isBlock hc1) T_212 T_256 T_1 T_211 (by decide +kernel) (by decide) rfl rfl (Nat.le_of_ble_eq_true rfl) d_X_hasBlock_1 ?_
  refine xw_if_eq C d_X_hasBlock_4 (tgt := 19) (by decide) (fun hc5 => ?_) (fun hc5 => ?_)
  · replace h := it_t hc5 h
    refine xw_iconst C d_X_hasBlock_19 (v := 0) (by decide) ?_
    exact fin _ _ _ _ h d_X_hasBlock_20 rfl
  · replace h := it_f hc5 h
    refine xw_iload_n C d_X_hasBlock_7 0 rfl ?_
    refine xw_iload_n C d_X_hasBlock_8 1 rfl ?_
    refine xw_ishr C d_X_hasBlock_9 ?_
    refine xw_iconst C d_X_hasBlock_10 (v := 1) (by decide) ?_
    refine xw_iand C d_X_hasBlock_11 ?_
    refine xw_if_eq C d_X_hasBlock_12 (tgt := 19) (by decide) (fun hc4 => ?_) (fun hc4 => ?_)
    · replace h := it_t hc4 h
      refine xw_iconst C d_X_hasBlock_19 (v := 0) (by decide) ?_
      exact fin _ _ _ _ h d_X_hasBlock_20 rfl
    · replace h := it_f hc4 h
      refine xw_iconst C d_X_hasBlock_15 (v := 1) (by decide) ?_
      refine xw_goto C d_X_hasBlock_16 (tgt := 20) (by decide) ?_
      exact fin _ _ _ _ h d_X_hasBlock_20 rfl
def f_Log_copyOffset (a1 a2 : Int32) (s0 : tj_S) : Option (Int32 × tj_S) :=
  bd (f_Log_slot a1 s0) fun r3 s2 =>
  gd (inb r3 8) <|
  bd (f_Int_bitCount ((s2 8 (Int32.toNatClampNeg r3)) &&& (((1 : Int32) <<< (a2 &&& 31)) - (1 : Int32))) s2) fun r7 s6 =>
  bd (f_Log_slot a1 s6) fun r10 s9 =>
  gd (inb r10 8) <|
  nm (((((s9 6 (Int32.toNatClampNeg r10)) + r7) + (r7 / (4 : Int32))) + (1 : Int32))) fun x12 =>
  some (((x12 - x12 / (24 : Int32) * (24 : Int32)) * (4 : Int32)), s9)
set_option maxRecDepth 100000 in
set_option maxHeartbeats 4000000 in
theorem c_Log_copyOffset {l : Launch} {D : va_G} {K : Nat → ClassId} {q : Nat → Nat} {a1 a2 : Int32} {s0 sE : tj_S} {rE : Int32} (h : f_Log_copyOffset a1 a2 s0 = some (rE, sE)) : tj_Mi l D tj_cls (X_tys K) tj_N tj_T (X_cw K q) y_Log_copyOffset b_Log_copyOffset 5 .int 1 21 [.ref (q 4), .int a1, .int a2] s0 rE sE := by
  refine tj_start_i (by decide +kernel) (Nat.le_of_ble_eq_true rfl) (fun Γ C fin => ?_)
  show tj_W Γ (X_cw K q) s0 [(0, .ref (q 4)), (1, .int a1), (2, .int a2)] 0 []
  unfold f_Log_copyOffset at h
  refine xw_aload_n C d_Log_copyOffset_0 0 rfl ?_
  refine xw_get C F_Log_ok 4 rfl rfl 3 (by decide) T_53 rfl d_Log_copyOffset_1 ?_
  refine xw_aload_n C d_Log_copyOffset_4 0 rfl ?_
  refine xw_iload_n C d_Log_copyOffset_5 1 rfl ?_
  obtain ⟨r3, s2, hc1, h⟩ := bd_e h
  refine xw_callV_i C tj_Tg tj_Ng (n := 1) (As := [.int a1]) (rest := [.ref (q 8)]) (c_Log_slot hc1) T_236 T_233 T_4 T_235 S_7 4 rfl rfl rfl (by decide +kernel) (by decide) rfl rfl (Nat.le_of_ble_eq_true rfl) d_Log_copyOffset_6 ?_
  obtain ⟨hb4, h⟩ := gd_e h
  refine xw_iald C 8 4 rfl rfl hb4 d_Log_copyOffset_9 ?_
  refine xw_iconst C d_Log_copyOffset_10 (v := 1) (by decide) ?_
  refine xw_iload_n C d_Log_copyOffset_11 2 rfl ?_
  refine xw_ishl C d_Log_copyOffset_12 ?_
  refine xw_iconst C d_Log_copyOffset_13 (v := 1) (by decide) ?_
  refine xw_isub C d_Log_copyOffset_14 ?_
  refine xw_iand C d_Log_copyOffset_15 ?_
  obtain ⟨r7, s6, hc5, h⟩ := bd_e h
  refine xw_callS_i C tj_Tg tj_Ng (n := 1) (As := [.int ((s2 8 (Int32.toNatClampNeg r3)) &&& (((1 : Int32) <<< (a2 &&& 31)) - (1 : Int32)))]) (rest := []) (c_Int_bitCount hc5) T_171 T_261 T_7 T_170 (by decide +kernel) (by decide) rfl rfl (Nat.le_of_ble_eq_true rfl) d_Log_copyOffset_16 ?_
  refine xw_istore_n C d_Log_copyOffset_19 rfl (by decide) (lv1 := [(3, .int r7), (0, .ref (q 4)), (1, .int a1), (2, .int a2)]) rfl ?_
  refine xw_aload_n C d_Log_copyOffset_20 1 rfl ?_
  refine xw_get C F_Log_ok 4 rfl rfl 1 (by decide) T_51 rfl d_Log_copyOffset_21 ?_
  refine xw_aload_n C d_Log_copyOffset_24 1 rfl ?_
  refine xw_iload_n C d_Log_copyOffset_25 2 rfl ?_
  obtain ⟨r10, s9, hc8, h⟩ := bd_e h
  refine xw_callV_i C tj_Tg tj_Ng (n := 1) (As := [.int a1]) (rest := [.ref (q 6)]) (c_Log_slot hc8) T_236 T_233 T_4 T_235 S_7 4 rfl rfl rfl (by decide +kernel) (by decide) rfl rfl (Nat.le_of_ble_eq_true rfl) d_Log_copyOffset_26 ?_
  obtain ⟨hb11, h⟩ := gd_e h
  refine xw_iald C 6 2 rfl rfl hb11 d_Log_copyOffset_29 ?_
  refine xw_iload_n C d_Log_copyOffset_30 0 rfl ?_
  refine xw_iadd C d_Log_copyOffset_31 ?_
  refine xw_iload_n C d_Log_copyOffset_32 0 rfl ?_
  refine xw_iconst C d_Log_copyOffset_33 (v := 4) (by decide) ?_
  refine xw_idiv C d_Log_copyOffset_34 (by decide) ?_
  refine xw_iadd C d_Log_copyOffset_35 ?_
  refine xw_iconst C d_Log_copyOffset_36 (v := 1) (by decide) ?_
  refine xw_iadd C d_Log_copyOffset_37 ?_
  refine xw_ni h (fun x12 h => ?_)
  refine xw_istore C d_Log_copyOffset_38 (by decide) (lv1 := [(4, .int x12), (3, .int r7), (0, .ref (q 4)), (1, .int a1), (2, .int a2)]) rfl ?_
  refine xw_iload C d_Log_copyOffset_40 0 rfl ?_
  refine xw_bipush C d_Log_copyOffset_42 (v := 24) (by decide) ?_
  refine xw_irem C d_Log_copyOffset_44 (by decide) ?_
  refine xw_iconst C d_Log_copyOffset_45 (v := 4) (by decide) ?_
  refine xw_imul C d_Log_copyOffset_46 ?_
  exact fin _ _ _ _ h d_Log_copyOffset_47 rfl
def f_Power_makeWrite (s0 : tj_S) : Option (Int32 × tj_S) :=
  if (s0 1 1) = (0 : Int32) then
    nm (up2 s0 1 0 (0 : Int32)) fun s5 =>
    nm (up2 s5 1 1 (-1 : Int32)) fun s6 =>
    some ((0 : Int32), s6)
  else
    if (s0 1 1) ≤ (0 : Int32) then
      nm (up2 s0 1 2 ((s0 1 2) + (1 : Int32))) fun s1 =>
      some ((1 : Int32), s1)
    else
      nm (up2 s0 1 1 ((s0 1 1) - (1 : Int32))) fun s2 =>
      nm (up2 s2 1 2 ((s2 1 2) + (1 : Int32))) fun s3 =>
      some ((1 : Int32), s3)
set_option maxRecDepth 100000 in
set_option maxHeartbeats 4000000 in
theorem c_Power_makeWrite {l : Launch} {D : va_G} {K : Nat → ClassId} {q : Nat → Nat} {s0 sE : tj_S} {rE : Int32} (h : f_Power_makeWrite s0 = some (rE, sE)) : tj_Mi l D tj_cls (X_tys K) tj_N tj_T (X_cw K q) y_Power_makeWrite b_Power_makeWrite 1 .boolean 0 0 [.ref (q 1)] s0 rE sE := by
  refine tj_start_i (by decide +kernel) (Nat.le_of_ble_eq_true rfl) (fun Γ C fin => ?_)
  show tj_W Γ (X_cw K q) s0 [(0, .ref (q 1))] 0 []
  unfold f_Power_makeWrite at h
  refine xw_aload_n C d_Power_makeWrite_0 0 rfl ?_
  refine xw_get C F_Power_ok 1 rfl rfl 1 (by decide) T_32 rfl d_Power_makeWrite_1 ?_
  refine xw_if_ne C d_Power_makeWrite_4 (tgt := 19) (by decide) (fun hc7 => ?_) (fun hc7 => ?_)
  · replace h := it_f hc7 h
    refine xw_aload_n C d_Power_makeWrite_19 0 rfl ?_
    refine xw_get C F_Power_ok 1 rfl rfl 1 (by decide) T_32 rfl d_Power_makeWrite_20 ?_
    refine xw_if_le C d_Power_makeWrite_23 (tgt := 36) (by decide) (fun hc4 => ?_) (fun hc4 => ?_)
    · replace h := it_t hc4 h
      refine xw_aload_n C d_Power_makeWrite_36 0 rfl ?_
      refine xw_dup C d_Power_makeWrite_37 rfl ?_
      refine xw_get C F_Power_ok 1 rfl rfl 2 (by decide) T_34 rfl d_Power_makeWrite_38 ?_
      refine xw_iconst C d_Power_makeWrite_41 (v := 1) (by decide) ?_
      refine xw_iadd C d_Power_makeWrite_42 ?_
      refine xw_put C F_Power_ok 1 rfl rfl 2 (by decide) T_34 rfl rfl rfl (Nat.le_of_ble_eq_true rfl) d_Power_makeWrite_43 (σ1 := (up2 s0 1 2 ((s0 1 2) + (1 : Int32)))) rfl ?_
      refine xw_ns h (fun s1 h => ?_)
      refine xw_iconst C d_Power_makeWrite_46 (v := 1) (by decide) ?_
      exact fin _ _ _ _ h d_Power_makeWrite_47 rfl
    · replace h := it_f hc4 h
      refine xw_aload_n C d_Power_makeWrite_26 0 rfl ?_
      refine xw_dup C d_Power_makeWrite_27 rfl ?_
      refine xw_get C F_Power_ok 1 rfl rfl 1 (by decide) T_32 rfl d_Power_makeWrite_28 ?_
      refine xw_iconst C d_Power_makeWrite_31 (v := 1) (by decide) ?_
      refine xw_isub C d_Power_makeWrite_32 ?_
      refine xw_put C F_Power_ok 1 rfl rfl 1 (by decide) T_32 rfl rfl rfl (Nat.le_of_ble_eq_true rfl) d_Power_makeWrite_33 (σ1 := (up2 s0 1 1 ((s0 1 1) - (1 : Int32)))) rfl ?_
      refine xw_ns h (fun s2 h => ?_)
      refine xw_aload_n C d_Power_makeWrite_36 0 rfl ?_
      refine xw_dup C d_Power_makeWrite_37 rfl ?_
      refine xw_get C F_Power_ok 1 rfl rfl 2 (by decide) T_34 rfl d_Power_makeWrite_38 ?_
      refine xw_iconst C d_Power_makeWrite_41 (v := 1) (by decide) ?_
      refine xw_iadd C d_Power_makeWrite_42 ?_
      refine xw_put C F_Power_ok 1 rfl rfl 2 (by decide) T_34 rfl rfl rfl (Nat.le_of_ble_eq_true rfl) d_Power_makeWrite_43 (σ1 := (up2 s2 1 2 ((s2 1 2) + (1 : Int32)))) rfl ?_
      refine xw_ns h (fun s3 h => ?_)
      refine xw_iconst C d_Power_makeWrite_46 (v := 1) (by decide) ?_
      exact fin _ _ _ _ h d_Power_makeWrite_47 rfl
  · replace h := it_t hc7 h
    refine xw_aload_n C d_Power_makeWrite_7 0 rfl ?_
    refine xw_iconst C d_Power_makeWrite_8 (v := 0) (by decide) ?_
    refine xw_put C F_Power_ok 1 rfl rfl 0 (by decide) T_30 rfl rfl rfl (Nat.le_of_ble_eq_true rfl) d_Power_makeWrite_9 (σ1 := (up2 s0 1 0 (0 : Int32))) rfl ?_
    refine xw_ns h (fun s5 h => ?_)
    refine xw_aload_n C d_Power_makeWrite_12 0 rfl ?_
    refine xw_iconst C d_Power_makeWrite_13 (v := -1) (by decide) ?_
    refine xw_put C F_Power_ok 1 rfl rfl 1 (by decide) T_32 rfl rfl rfl (Nat.le_of_ble_eq_true rfl) d_Power_makeWrite_14 (σ1 := (up2 s5 1 1 (-1 : Int32))) rfl ?_
    refine xw_ns h (fun s6 h => ?_)
    refine xw_iconst C d_Power_makeWrite_17 (v := 0) (by decide) ?_
    exact fin _ _ _ _ h d_Power_makeWrite_18 rfl
def f_Disk_writeHome_5 (a1 a3 : Int32) (s0 : tj_S) : Option (Int32 × tj_S) :=
  bd (f_Power_makeWrite s0) fun r3 s2 =>
  if r3 = (0 : Int32) then
    some ((0 : Int32), s2)
  else
    bd (f_X_isBlock a1 s2) fun r6 s5 =>
    if r6 = (0 : Int32) then
      some ((1 : Int32), s5)
    else
      if a3 < (0 : Int32) then
        some ((1 : Int32), s5)
      else
        if (96 : Int32) < (a3 + (4 : Int32)) then
          some ((1 : Int32), s5)
        else
          gd (cpb a3 (a1 * (4 : Int32)) (4 : Int32) 96 92) <|
          nm (st2 s5 3 (va_cpy (s5 5) (s5 3) (Int32.toNatClampNeg a3) (Int32.toNatClampNeg (a1 * (4 : Int32))) (Int32.toNatClampNeg (4 : Int32)))) fun s8 =>
          some ((1 : Int32), s8)
set_option maxRecDepth 100000 in
set_option maxHeartbeats 4000000 in
theorem c_Disk_writeHome_5 {l : Launch} {D : va_G} {K : Nat → ClassId} {q : Nat → Nat} {a1 a3 : Int32} {s0 sE : tj_S} {rE : Int32} (h : f_Disk_writeHome_5 a1 a3 s0 = some (rE, sE)) : tj_Mi l D tj_cls (X_tys K) tj_N tj_T (X_cw K q) y_Disk_writeHome b_Disk_writeHome 4 .boolean 1 40 [.ref (q 2), .int a1, .ref (q 5), .int a3] s0 rE sE := by
  refine tj_start_i (by decide +kernel) (Nat.le_of_ble_eq_true rfl) (fun Γ C fin => ?_)
  show tj_W Γ (X_cw K q) s0 [(0, .ref (q 2)), (1, .int a1), (2, .ref (q 5)), (3, .int a3)] 0 []
  unfold f_Disk_writeHome_5 at h
  refine xw_aload_n C d_Disk_writeHome_0 0 rfl ?_
  refine xw_get C F_Disk_ok 2 rfl rfl 0 (by decide) T_79 rfl d_Disk_writeHome_1 ?_
  obtain ⟨r3, s2, hc1, h⟩ := bd_e h
  refine xw_callV_i C tj_Tg tj_Ng (n := 0) (As := []) (rest := []) (c_Power_makeWrite hc1) T_209 T_206 T_3 T_207 T_208 1 rfl rfl rfl (by decide +kernel) (by decide) rfl rfl (Nat.le_of_ble_eq_true rfl) d_Disk_writeHome_4 ?_
  refine xw_if_ne C d_Disk_writeHome_7 (tgt := 12) (by decide) (fun hc12 => ?_) (fun hc12 => ?_)
  · replace h := it_f hc12 h
    refine xw_iload_n C d_Disk_writeHome_12 1 rfl ?_
    obtain ⟨r6, s5, hc4, h⟩ := bd_e h
    refine xw_callSN_i C tj_Tg tj_Ng (n := 1) (As := [.int a1]) (rest := []) (c_X_isBlock hc4) T_212 "ThreeModeJournal" N_210 T_1 T_211 (by decide +kernel) (by decide) rfl rfl (Nat.le_of_ble_eq_true rfl) d_Disk_writeHome_13 ?_
    refine xw_if_eq C d_Disk_writeHome_16 (tgt := 44) (by decide) (fun hc11 => ?_) (fun hc11 => ?_)
    · replace h := it_t hc11 h
      refine xw_iconst C d_Disk_writeHome_44 (v := 1) (by decide) ?_
      exact fin _ _ _ _ h d_Disk_writeHome_45 rfl
    · replace h := it_f hc11 h
      refine xw_iload_n C d_Disk_writeHome_19 3 rfl ?_
      refine xw_if_lt C d_Disk_writeHome_20 (tgt := 44) (by decide) (fun hc10 => ?_) (fun hc10 => ?_)
      · replace h := it_t hc10 h
        refine xw_iconst C d_Disk_writeHome_44 (v := 1) (by decide) ?_
        exact fin _ _ _ _ h d_Disk_writeHome_45 rfl
      · replace h := it_f hc10 h
        refine xw_iload_n C d_Disk_writeHome_23 3 rfl ?_
        refine xw_iconst C d_Disk_writeHome_24 (v := 4) (by decide) ?_
        refine xw_iadd C d_Disk_writeHome_25 ?_
        refine xw_aload_n C d_Disk_writeHome_26 2 rfl ?_
        refine xw_alen C 5 1 rfl rfl (v := 96) rfl d_Disk_writeHome_27 ?_
        refine xw_icmp_gt C d_Disk_writeHome_28 (tgt := 44) (by decide) (fun hc9 => ?_) (fun hc9 => ?_)
        · replace h := it_t hc9 h
          refine xw_iconst C d_Disk_writeHome_44 (v := 1) (by decide) ?_
          exact fin _ _ _ _ h d_Disk_writeHome_45 rfl
        · replace h := it_f hc9 h
          refine xw_aload_n C d_Disk_writeHome_31 2 rfl ?_
          refine xw_iload_n C d_Disk_writeHome_32 3 rfl ?_
          refine xw_aload_n C d_Disk_writeHome_33 0 rfl ?_
          refine xw_get C F_Disk_ok 2 rfl rfl 1 (by decide) T_81 rfl d_Disk_writeHome_34 ?_
          refine xw_iload_n C d_Disk_writeHome_37 1 rfl ?_
          refine xw_iconst C d_Disk_writeHome_38 (v := 4) (by decide) ?_
          refine xw_imul C d_Disk_writeHome_39 ?_
          refine xw_iconst C d_Disk_writeHome_40 (v := 4) (by decide) ?_
          obtain ⟨hb7, h⟩ := gd_e h
          refine xw_copy C T_213 T_215 T_214 T_8 5 3 1 0 rfl rfl rfl rfl hb7 (by decide) (Nat.le_of_ble_eq_true rfl) d_Disk_writeHome_41 (σ1 := (st2 s5 3 (va_cpy (s5 5) (s5 3) (Int32.toNatClampNeg a3) (Int32.toNatClampNeg (a1 * (4 : Int32))) (Int32.toNatClampNeg (4 : Int32))))) rfl ?_
          refine xw_ns h (fun s8 h => ?_)
          refine xw_iconst C d_Disk_writeHome_44 (v := 1) (by decide) ?_
          exact fin _ _ _ _ h d_Disk_writeHome_45 rfl
  · replace h := it_t hc12 h
    refine xw_iconst C d_Disk_writeHome_10 (v := 0) (by decide) ?_
    exact fin _ _ _ _ h d_Disk_writeHome_11 rfl
