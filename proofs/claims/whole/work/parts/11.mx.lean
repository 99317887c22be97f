def f_Disk_writeCopiesHome_L2 (y2 y3 : Int32) (k : Int32 → tj_S → Option (Int32 × tj_S)) : Nat → Int32 → tj_S → Option (Int32 × tj_S)
  | 0, _, _ => none
  | n + 1, x1, s4 =>
    if (23 : Int32) ≤ x1 then
      k x1 s4
    else
      bd (f_X_hasBlock y3 x1 s4) fun r7 s6 =>
      if r7 = (0 : Int32) then
        nm (x1 + Int32.ofInt 1) fun x8 =>
        f_Disk_writeCopiesHome_L2 y2 y3 k n x8 s6
      else
        bd (f_Log_copyOffset y2 x1 s6) fun r11 s10 =>
        bd (f_Disk_writeHome_5 x1 r11 s10) fun r14 s13 =>
        if r14 = (0 : Int32) then
          some ((0 : Int32), s13)
        else
          nm (x1 + Int32.ofInt 1) fun x15 =>
          f_Disk_writeCopiesHome_L2 y2 y3 k n x15 s13
def f_Disk_writeCopiesHome (a1 a2 : Int32) (s0 : tj_S) : Option (Int32 × tj_S) :=
  f_Disk_writeCopiesHome_L2 a1 a2 (fun x21 s22 =>
    some ((1 : Int32), s22)) 100 (0 : Int32) s0
set_option maxRecDepth 100000 in
set_option maxHeartbeats 4000000 in
theorem c_Disk_writeCopiesHome {l : Launch} {D : va_G} {K : Nat → ClassId} {q : Nat → Nat} {a1 a2 : Int32} {s0 sE : tj_S} {rE : Int32} (h : f_Disk_writeCopiesHome a1 a2 s0 = some (rE, sE)) : tj_Mi l D tj_cls (X_tys K) tj_N tj_T (X_cw K q) y_Disk_writeCopiesHome b_Disk_writeCopiesHome 4 .boolean 2 63 [.ref (q 2), .int a1, .int a2] s0 rE sE := by
  refine tj_start_i (by decide +kernel) (Nat.le_of_ble_eq_true rfl) (fun Γ C fin => ?_)
  show tj_W Γ (X_cw K q) s0 [(0, .ref (q 2)), (1, .int a1), (2, .int a2)] 0 []
  have L2 : ∀ (y2 y3 : Int32) (k : Int32 → tj_S → Option (Int32 × tj_S)), (∀ (x19 : Int32) (s20 : tj_S), k x19 s20 = some (rE, sE) → tj_W Γ (X_cw K q) s20 [(0, .ref (q 2)), (1, .int y2), (2, .int y3), (3, .int x19)] 48 []) → ∀ (n : Nat) (x1 : Int32) (s4 : tj_S), f_Disk_writeCopiesHome_L2 y2 y3 k n x1 s4 = some (rE, sE) → tj_W Γ (X_cw K q) s4 [(0, .ref (q 2)), (1, .int y2), (2, .int y3), (3, .int x1)] 2 [] := by
    intro y2 y3 k hk n
    induction n with
    | zero => intro x1 s4 h; rw [f_Disk_writeCopiesHome_L2] at h; cases h
    | succ n ih =>
      intro x1 s4 h
      rw [f_Disk_writeCopiesHome_L2] at h
      refine xw_iload_n C d_Disk_writeCopiesHome_2 3 rfl ?_
      refine xw_bipush C d_Disk_writeCopiesHome_3 (v := 23) (by decide) ?_
      refine xw_icmp_ge C d_Disk_writeCopiesHome_5 (tgt := 48) (by decide) (fun hc18 => ?_) (fun hc18 => ?_)
      · replace h := it_t hc18 h
        exact xw_lv [0, 1, 2, 3] rfl (hk _ _ h)
      · replace h := it_f hc18 h
        refine xw_iload_n C d_Disk_writeCopiesHome_8 2 rfl ?_
        refine xw_iload_n C d_Disk_writeCopiesHome_9 3 rfl ?_
        obtain ⟨r7, s6, hc5, h⟩ := bd_e h
        refine xw_callSN_i C tj_Tg tj_Ng (n := 2) (As := [.int y3, .int x1]) (rest := []) (c_X_hasBlock hc5) T_255 "ThreeModeJournal" N_253 T_1 T_254 (by decide +kernel) (by decide) rfl rfl (Nat.le_of_ble_eq_true rfl) d_Disk_writeCopiesHome_10 ?_
        refine xw_if_eq C d_Disk_writeCopiesHome_13 (tgt := 42) (by decide) (fun hc17 => ?_) (fun hc17 => ?_)
        · replace h := it_t hc17 h
          refine xw_iinc C h (fun v => [(3, .int v), (0, .ref (q 2)), (1, .int y2), (2, .int y3)]) d_Disk_writeCopiesHome_42 3 rfl (by decide) (fun _ => rfl) (fun x8 h => ?_)
          refine xw_goto C d_Disk_writeCopiesHome_45 (tgt := 2) (by decide) ?_
          exact xw_lv [1, 2, 3, 0] rfl (ih _ _ h)
        · replace h := it_f hc17 h
          refine xw_aload_n C d_Disk_writeCopiesHome_16 0 rfl ?_
          refine xw_iload_n C d_Disk_writeCopiesHome_17 3 rfl ?_
          refine xw_aload_n C d_Disk_writeCopiesHome_18 0 rfl ?_
          refine xw_get C F_Disk_ok 2 rfl rfl 2 (by decide) T_83 rfl d_Disk_writeCopiesHome_19 ?_
          refine xw_getN C F_Log_ok 4 rfl rfl 0 (by decide) "ThreeModeJournal" N_50 rfl d_Disk_writeCopiesHome_22 ?_
          refine xw_aload_n C d_Disk_writeCopiesHome_25 0 rfl ?_
          refine xw_get C F_Disk_ok 2 rfl rfl 2 (by decide) T_83 rfl d_Disk_writeCopiesHome_26 ?_
          refine xw_iload_n C d_Disk_writeCopiesHome_29 1 rfl ?_
          refine xw_iload_n C d_Disk_writeCopiesHome_30 3 rfl ?_
          obtain ⟨r11, s10, hc9, h⟩ := bd_e h
          refine xw_callV_i C tj_Tg tj_Ng (n := 2) (As := [.int y2, .int x1]) (rest := [.ref (q 5), .int x1, .ref (q 2)]) (c_Log_copyOffset hc9) T_260 T_257 T_4 T_258 T_259 4 rfl rfl rfl (by decide +kernel) (by decide) rfl rfl (Nat.le_of_ble_eq_true rfl) d_Disk_writeCopiesHome_31 ?_
          obtain ⟨r14, s13, hc12, h⟩ := bd_e h
          refine xw_callV_i C tj_Tg tj_Ng (n := 3) (As := [.int x1, .ref (q 5), .int r11]) (rest := []) (c_Disk_writeHome_5 hc12) T_205 T_262 T_2 T_203 T_204 2 rfl rfl rfl (by decide +kernel) (by decide) rfl rfl (Nat.le_of_ble_eq_true rfl) d_Disk_writeCopiesHome_34 ?_
          refine xw_if_ne C d_Disk_writeCopiesHome_37 (tgt := 42) (by decide) (fun hc16 => ?_) (fun hc16 => ?_)
          · replace h := it_f hc16 h
            refine xw_iinc C h (fun v => [(3, .int v), (0, .ref (q 2)), (1, .int y2), (2, .int y3)]) d_Disk_writeCopiesHome_42 3 rfl (by decide) (fun _ => rfl) (fun x15 h => ?_)
            refine xw_goto C d_Disk_writeCopiesHome_45 (tgt := 2) (by decide) ?_
            exact xw_lv [1, 2, 3, 0] rfl (ih _ _ h)
          · replace h := it_t hc16 h
            refine xw_iconst C d_Disk_writeCopiesHome_40 (v := 0) (by decide) ?_
            exact fin _ _ _ _ h d_Disk_writeCopiesHome_41 rfl
  unfold f_Disk_writeCopiesHome at h
  refine xw_iconst C d_Disk_writeCopiesHome_0 (v := 0) (by decide) ?_
  refine xw_istore_n C d_Disk_writeCopiesHome_1 rfl (by decide) (lv1 := [(3, .int (0 : Int32)), (0, .ref (q 2)), (1, .int a1), (2, .int a2)]) rfl ?_
  refine xw_lv [1, 2, 3, 0] rfl (L2 _ _ _ (fun x21 s22 h => ?_) 100 _ _ h)
  refine xw_iconst C d_Disk_writeCopiesHome_48 (v := 1) (by decide) ?_
  exact fin _ _ _ _ h d_Disk_writeCopiesHome_49 rfl
def f_Log_forgetOldest (a1 : Int32) (s0 : tj_S) : Option (tj_S) :=
  bd (f_Log_slot a1 s0) fun r3 s2 =>
  nm (up2 s2 4 5 r3) fun s4 =>
  nm (up2 s4 4 6 ((s4 4 6) - a1)) fun s5 =>
  some s5
set_option maxRecDepth 100000 in
set_option maxHeartbeats 4000000 in
theorem c_Log_forgetOldest {l : Launch} {D : va_G} {K : Nat → ClassId} {q : Nat → Nat} {a1 : Int32} {s0 sE : tj_S} (h : f_Log_forgetOldest a1 s0 = some sE) : tj_Mv l D tj_cls (X_tys K) tj_N tj_T (X_cw K q) y_Log_forgetOldest b_Log_forgetOldest 2 1 21 [.ref (q 4), .int a1] s0 sE := by
  refine tj_start_v (by decide +kernel) (Nat.le_of_ble_eq_true rfl) (fun Γ C fin => ?_)
  show tj_W Γ (X_cw K q) s0 [(0, .ref (q 4)), (1, .int a1)] 0 []
  unfold f_Log_forgetOldest at h
  refine xw_aload_n C d_Log_forgetOldest_0 0 rfl ?_
  refine xw_aload_n C d_Log_forgetOldest_1 0 rfl ?_
  refine xw_iload_n C d_Log_forgetOldest_2 1 rfl ?_
  obtain ⟨r3, s2, hc1, h⟩ := bd_e h
  refine xw_callV_i C tj_Tg tj_Ng (n := 1) (As := [.int a1]) (rest := [.ref (q 4)]) (c_Log_slot hc1) T_236 T_233 T_4 T_235 S_7 4 rfl rfl rfl (by decide +kernel) (by decide) rfl rfl (Nat.le_of_ble_eq_true rfl) d_Log_forgetOldest_3 ?_
  refine xw_put C F_Log_ok 4 rfl rfl 5 (by decide) T_55 rfl rfl rfl (Nat.le_of_ble_eq_true rfl) d_Log_forgetOldest_6 (σ1 := (up2 s2 4 5 r3)) rfl ?_
  refine xw_ns h (fun s4 h => ?_)
  refine xw_aload_n C d_Log_forgetOldest_9 0 rfl ?_
  refine xw_dup C d_Log_forgetOldest_10 rfl ?_
  refine xw_get C F_Log_ok 4 rfl rfl 6 (by decide) T_56 rfl d_Log_forgetOldest_11 ?_
  refine xw_iload_n C d_Log_forgetOldest_14 1 rfl ?_
  refine xw_isub C d_Log_forgetOldest_15 ?_
  refine xw_put C F_Log_ok 4 rfl rfl 6 (by decide) T_56 rfl rfl rfl (Nat.le_of_ble_eq_true rfl) d_Log_forgetOldest_16 (σ1 := (up2 s4 4 6 ((s4 4 6) - a1))) rfl ?_
  refine xw_ns h (fun s5 h => ?_)
  exact fin _ _ _ h d_Log_forgetOldest_19
def f_Disk_dropOldest (a1 : Int32) (s0 : tj_S) : Option (Int32 × tj_S) :=
  if a1 = (0 : Int32) then
    some ((1 : Int32), s0)
  else
    bd (f_Power_makeWrite s0) fun r3 s2 =>
    if r3 = (0 : Int32) then
      some ((0 : Int32), s2)
    else
      bv (f_Log_forgetOldest a1 s2) fun s5 =>
      some ((1 : Int32), s5)
set_option maxRecDepth 100000 in
set_option maxHeartbeats 4000000 in
theorem c_Disk_dropOldest {l : Launch} {D : va_G} {K : Nat → ClassId} {q : Nat → Nat} {a1 : Int32} {s0 sE : tj_S} {rE : Int32} (h : f_Disk_dropOldest a1 s0 = some (rE, sE)) : tj_Mi l D tj_cls (X_tys K) tj_N tj_T (X_cw K q) y_Disk_dropOldest b_Disk_dropOldest 2 .boolean 2 42 [.ref (q 2), .int a1] s0 rE sE := by
  refine tj_start_i (by decide +kernel) (Nat.le_of_ble_eq_true rfl) (fun Γ C fin => ?_)
  show tj_W Γ (X_cw K q) s0 [(0, .ref (q 2)), (1, .int a1)] 0 []
  unfold f_Disk_dropOldest at h
  refine xw_iload_n C d_Disk_dropOldest_0 1 rfl ?_
  refine xw_if_ne C d_Disk_dropOldest_1 (tgt := 6) (by decide) (fun hc7 => ?_) (fun hc7 => ?_)
  · replace h := it_f hc7 h
    refine xw_aload_n C d_Disk_dropOldest_6 0 rfl ?_
    refine xw_get C F_Disk_ok 2 rfl rfl 0 (by decide) T_79 rfl d_Disk_dropOldest_7 ?_
    obtain ⟨r3, s2, hc1, h⟩ := bd_e h
    refine xw_callV_i C tj_Tg tj_Ng (n := 0) (As := []) (rest := []) (c_Power_makeWrite hc1) T_209 T_206 T_3 T_207 T_208 1 rfl rfl rfl (by decide +kernel) (by decide) rfl rfl (Nat.le_of_ble_eq_true rfl) d_Disk_dropOldest_10 ?_
    refine xw_if_ne C d_Disk_dropOldest_13 (tgt := 18) (by decide) (fun hc6 => ?_) (fun hc6 => ?_)
    · replace h := it_f hc6 h
      refine xw_aload_n C d_Disk_dropOldest_18 0 rfl ?_
      refine xw_get C F_Disk_ok 2 rfl rfl 2 (by decide) T_83 rfl d_Disk_dropOldest_19 ?_
      refine xw_iload_n C d_Disk_dropOldest_22 1 rfl ?_
      obtain ⟨s5, hc4, h⟩ := bv_e h
      refine xw_callV_v C tj_Tg tj_Ng (n := 1) (As := [.int a1]) (rest := []) (c_Log_forgetOldest hc4) T_270 T_267 T_4 T_268 T_269 4 rfl rfl rfl (by decide +kernel) (by decide) rfl rfl (Nat.le_of_ble_eq_true rfl) d_Disk_dropOldest_23 ?_
      refine xw_iconst C d_Disk_dropOldest_26 (v := 1) (by decide) ?_
      exact fin _ _ _ _ h d_Disk_dropOldest_27 rfl
    · replace h := it_t hc6 h
      refine xw_iconst C d_Disk_dropOldest_16 (v := 0) (by decide) ?_
      exact fin _ _ _ _ h d_Disk_dropOldest_17 rfl
  · replace h := it_t hc7 h
    refine xw_iconst C d_Disk_dropOldest_4 (v := 1) (by decide) ?_
    exact fin _ _ _ _ h d_Disk_dropOldest_5 rfl
def f_Disk_checkpointOldest_L2 (y2 : Int32) (k : Int32 → tj_S → Option (Int32 × tj_S)) : Nat → Int32 → tj_S → Option (Int32 × tj_S)
  | 0, _, _ => none
  | n + 1, x1, s3 =>
    if y2 ≤ x1 then
      k x1 s3
    else
      bd (f_Log_liveCopies x1 s3) fun r6 s5 =>
      bd (f_Disk_writeCopiesHome x1 r6 s5) fun r9 s8 =>
      if r9 = (0 : Int32) then
        some ((0 : Int32), s8)
      else
        nm (x1 + Int32.ofInt 1) fun x10 =>
        f_Disk_checkpointOldest_L2 y2 k n x10 s8
def f_Disk_checkpointOldest (a1 : Int32) (s0 : tj_S) : Option (Int32 × tj_S) :=
  f_Disk_checkpointOldest_L2 a1 (fun x15 s16 =>
    bd (f_Disk_dropOldest a1 s16) fun r19 s18 =>
    gd (isb r19) <|
    some (r19, s18)) 100 (0 : Int32) s0
set_option maxRecDepth 100000 in
set_option maxHeartbeats 4000000 in
theorem c_Disk_checkpointOldest {l : Launch} {D : va_G} {K : Nat → ClassId} {q : Nat → Nat} {a1 : Int32} {s0 sE : tj_S} {rE : Int32} (h : f_Disk_checkpointOldest a1 s0 = some (rE, sE)) : tj_Mi l D tj_cls (X_tys K) tj_N tj_T (X_cw K q) y_Disk_checkpointOldest b_Disk_checkpointOldest 3 .boolean 3 86 [.ref (q 2), .int a1] s0 rE sE := by
  refine tj_start_i (by decide +kernel) (Nat.le_of_ble_eq_true rfl) (fun Γ C fin => ?_)
  show tj_W Γ (X_cw K q) s0 [(0, .ref (q 2)), (1, .int a1)] 0 []
  have L2 : ∀ (y2 : Int32) (k : Int32 → tj_S → Option (Int32 × tj_S)), (∀ (x13 : Int32) (s14 : tj_S), k x13 s14 = some (rE, sE) → tj_W Γ (X_cw K q) s14 [(0, .ref (q 2)), (1, .int y2), (2, .int x13)] 31 []) → ∀ (n : Nat) (x1 : Int32) (s3 : tj_S), f_Disk_checkpointOldest_L2 y2 k n x1 s3 = some (rE, sE) → tj_W Γ (X_cw K q) s3 [(0, .ref (q 2)), (1, .int y2), (2, .int x1)] 2 [] := by
    intro y2 k hk n
    induction n with
    | zero => intro x1 s3 h; rw [f_Disk_checkpointOldest_L2] at h; cases h
    | succ n ih =>
      intro x1 s3 h
      rw [f_Disk_checkpointOldest_L2] at h
      refine xw_iload_n C d_Disk_checkpointOldest_2 2 rfl ?_
      refine xw_iload_n C d_Disk_checkpointOldest_3 1 rfl ?_
      refine xw_icmp_ge C d_Disk_checkpointOldest_4 (tgt := 31) (by decide) (fun hc12 => ?_) (fun hc12 => ?_)
      · replace h := it_t hc12 h
        exact xw_lv [0, 1, 2] rfl (hk _ _ h)
      · replace h := it_f hc12 h
        refine xw_aload_n C d_Disk_checkpointOldest_7 0 rfl ?_
        refine xw_iload_n C d_Disk_checkpointOldest_8 2 rfl ?_
        refine xw_aload_n C d_Disk_checkpointOldest_9 0 rfl ?_
        refine xw_get C F_Disk_ok 2 rfl rfl 2 (by decide) T_83 rfl d_Disk_checkpointOldest_10 ?_
        refine xw_iload_n C d_Disk_checkpointOldest_13 2 rfl ?_
        obtain ⟨r6, s5, hc4, h⟩ := bd_e h
        refine xw_callV_i C tj_Tg tj_Ng (n := 1) (As := [.int x1]) (rest := [.int x1, .ref (q 2)]) (c_Log_liveCopies hc4) T_244 T_241 T_4 T_242 T_243 4 rfl rfl rfl (by decide +kernel) (by decide) rfl rfl (Nat.le_of_ble_eq_true rfl) d_Disk_checkpointOldest_14 ?_
        obtain ⟨r9, s8, hc7, h⟩ := bd_e h
        refine xw_callV_i C tj_Tg tj_Ng (n := 2) (As := [.int x1, .int r6]) (rest := []) (c_Disk_writeCopiesHome hc7) T_252 T_249 T_2 T_251 S_9 2 rfl rfl rfl (by decide +kernel) (by decide) rfl rfl (Nat.le_of_ble_eq_true rfl) d_Disk_checkpointOldest_17 ?_
        refine xw_if_ne C d_Disk_checkpointOldest_20 (tgt := 25) (by decide) (fun hc11 => ?_) (fun hc11 => ?_)
        · replace h := it_f hc11 h
          refine xw_iinc C h (fun v => [(2, .int v), (0, .ref (q 2)), (1, .int y2)]) d_Disk_checkpointOldest_25 2 rfl (by decide) (fun _ => rfl) (fun x10 h => ?_)
          refine xw_goto C d_Disk_checkpointOldest_28 (tgt := 2) (by decide) ?_
          exact xw_lv [1, 2, 0] rfl (ih _ _ h)
        · replace h := it_t hc11 h
          refine xw_iconst C d_Disk_checkpointOldest_23 (v := 0) (by decide) ?_
          exact fin _ _ _ _ h d_Disk_checkpointOldest_24 rfl
  unfold f_Disk_checkpointOldest at h
  refine xw_iconst C d_Disk_checkpointOldest_0 (v := 0) (by decide) ?_
  refine xw_istore_n C d_Disk_checkpointOldest_1 rfl (by decide) (lv1 := [(2, .int (0 : Int32)), (0, .ref (q 2)), (1, .int a1)]) rfl ?_
  refine xw_lv [1, 2, 0] rfl (L2 _ _ (fun x15 s16 h => ?_) 100 _ _ h)
  refine xw_aload_n C d_Disk_checkpointOldest_31 0 rfl ?_
  refine xw_iload_n C d_Disk_checkpointOldest_32 1 rfl ?_
  obtain ⟨r19, s18, hc17, h⟩ := bd_e h
  refine xw_callV_i C tj_Tg tj_Ng (n := 1) (As := [.int a1]) (rest := []) (c_Disk_dropOldest hc17) T_266 T_263 T_2 T_265 S_10 2 rfl rfl rfl (by decide +kernel) (by decide) rfl rfl (Nat.le_of_ble_eq_true rfl) d_Disk_checkpointOldest_33 ?_
  obtain ⟨hb20, h⟩ := gd_e h
  exact fin _ _ _ _ h d_Disk_checkpointOldest_36 (isb_n hb20)
def f_Log_append_10_L71 (y24 y25 : Int32) (k : Int32 → tj_S → Option (tj_S)) : Nat → Int32 → tj_S → Option (tj_S)
  | 0, _, _ => none
  | n + 1, x23, s26 =>
    if (23 : Int32) ≤ x23 then
      k x23 s26
    else
      bd (f_X_hasBlock (s26 10 3) x23 s26) fun r29 s28 =>
      if r29 = (0 : Int32) then
        nm (x23 + Int32.ofInt 1) fun x30 =>
        f_Log_append_10_L71 y24 y25 k n x30 s28
      else
        bd (f_Log_copyOffset y25 x23 s28) fun r33 s32 =>
        gd (cpb (x23 * (4 : Int32)) r33 (4 : Int32) 92 96) <|
        nm (st2 s32 5 (va_cpy (s32 11) (s32 5) (Int32.toNatClampNeg (x23 * (4 : Int32))) (Int32.toNatClampNeg r33) (Int32.toNatClampNeg (4 : Int32)))) fun s35 =>
        nm (x23 + Int32.ofInt 1) fun x36 =>
        f_Log_append_10_L71 y24 y25 k n x36 s35
def f_Log_append_10 (a1 : Int32) (s0 : tj_S) : Option (tj_S) :=
  nm ((s0 4 6)) fun x1 =>
  nm (up2 s0 4 6 ((s0 4 6) + (1 : Int32))) fun s2 =>
  bd (f_Log_slot x1 s2) fun r5 s4 =>
  gd (inb r5 8) <|
  nm (up2 s4 6 (Int32.toNatClampNeg r5) (s4 4 7)) fun s7 =>
  bd (f_Log_slot x1 s7) fun r10 s9 =>
  gd (inb r10 8) <|
  nm (up2 s9 7 (Int32.toNatClampNeg r10) a1) fun s12 =>
  bd (f_Log_slot x1 s12) fun r15 s14 =>
  gd (inb r15 8) <|
  nm (up2 s14 8 (Int32.toNatClampNeg r15) (s14 10 3)) fun s17 =>
  bd (f_Log_slot x1 s17) fun r20 s19 =>
  gd (inb r20 8) <|
  nm (up2 s19 9 (Int32.toNatClampNeg r20) (s19 10 4)) fun s22 =>
  f_Log_append_10_L71 a1 x1 (fun x41 s42 =>
    nm (up2 s42 4 7 (((s42 4 7) + a1) - ((s42 4 7) + a1) / (24 : Int32) * (24 : Int32))) fun s43 =>
    some s43) 100 (0 : Int32) s22
set_option maxRecDepth 100000 in
set_option maxHeartbeats 4000000 in
theorem c_Log_append_10 {l : Launch} {D : va_G} {K : Nat → ClassId} {q : Nat → Nat} {a1 : Int32} {s0 sE : tj_S} (h : f_Log_append_10 a1 s0 = some sE) : tj_Mv l D tj_cls (X_tys K) tj_N tj_T (X_cw K q) y_Log_append b_Log_append 5 2 45 [.ref (q 4), .int a1, .ref (q 10)] s0 sE := by
  refine tj_start_v (by decide +kernel) (Nat.le_of_ble_eq_true rfl) (fun Γ C fin => ?_)
  show tj_W Γ (X_cw K q) s0 [(0, .ref (q 4)), (1, .int a1), (2, .ref (q 10))] 0 []
  have L71 : ∀ (y24 y25 : Int32) (k : Int32 → tj_S → Option (tj_S)), (∀ (x39 : Int32) (s40 : tj_S), k x39 s40 = some sE → tj_W Γ (X_cw K q) s40 [(0, .ref (q 4)), (1, .int y24), (2, .ref (q 10)), (3, .int y25), (4, .int x39)] 119 []) → ∀ (n : Nat) (x23 : Int32) (s26 : tj_S), f_Log_append_10_L71 y24 y25 k n x23 s26 = some sE → tj_W Γ (X_cw K q) s26 [(0, .ref (q 4)), (1, .int y24), (2, .ref (q 10)), (3, .int y25), (4, .int x23)] 71 [] := by
    intro y24 y25 k hk n
    induction n with
    | zero => intro x23 s26 h; rw [f_Log_append_10_L71] at h; cases h
    | succ n ih =>
      intro x23 s26 h
      rw [f_Log_append_10_L71] at h
      refine xw_iload C d_Log_append_71 4 rfl ?_
      refine xw_bipush C d_Log_append_73 (v := 23) (by decide) ?_
      refine xw_icmp_ge C d_Log_append_75 (tgt := 119) (by decide) (fun hc38 => ?_) (fun hc38 => ?_)
      · replace h := it_t hc38 h
        exact xw_lv [0, 1, 2, 3, 4] rfl (hk _ _ h)
      · replace h := it_f hc38 h
        refine xw_aload_n C d_Log_append_78 2 rfl ?_
        refine xw_getN C F_Mem_ok 10 rfl rfl 3 (by decide) "ThreeModeJournal" N_105 rfl d_Log_append_79 ?_
        refine xw_iload C d_Log_append_82 4 rfl ?_
        obtain ⟨r29, s28, hc27, h⟩ := bd_e h
        refine xw_callSN_i C tj_Tg tj_Ng (n := 2) (As := [.int (s26 10 3), .int x23]) (rest := []) (c_X_hasBlock hc27) T_255 "ThreeModeJournal" N_279 T_1 T_254 (by decide +kernel) (by decide) rfl rfl (Nat.le_of_ble_eq_true rfl) d_Log_append_84 ?_
        refine xw_if_eq C d_Log_append_87 (tgt := 113) (by decide) (fun hc37 => ?_) (fun hc37 => ?_)
        · replace h := it_t hc37 h
          refine xw_iinc C h (fun v => [(4, .int v), (0, .ref (q 4)), (1, .int y24), (2, .ref (q 10)), (3, .int y25)]) d_Log_append_113 4 rfl (by decide) (fun _ => rfl) (fun x30 h => ?_)
          refine xw_goto C d_Log_append_116 (tgt := 71) (by decide) ?_
          exact xw_lv [1, 2, 3, 4, 0] rfl (ih _ _ h)
        · replace h := it_f hc37 h
          refine xw_aload_n C d_Log_append_90 2 rfl ?_
          refine xw_getN C F_Mem_ok 10 rfl rfl 0 (by decide) "ThreeModeJournal" N_99 rfl d_Log_append_91 ?_
          refine xw_iload C d_Log_append_94 4 rfl ?_
          refine xw_iconst C d_Log_append_96 (v := 4) (by decide) ?_
          refine xw_imul C d_Log_append_97 ?_
          refine xw_aload_n C d_Log_append_98 0 rfl ?_
          refine xw_get C F_Log_ok 4 rfl rfl 0 (by decide) T_49 rfl d_Log_append_99 ?_
          refine xw_aload_n C d_Log_append_102 0 rfl ?_
          refine xw_iload_n C d_Log_append_103 3 rfl ?_
          refine xw_iload C d_Log_append_104 4 rfl ?_
          obtain ⟨r33, s32, hc31, h⟩ := bd_e h
          refine xw_callV_i C tj_Tg tj_Ng (n := 2) (As := [.int y25, .int x23]) (rest := [.ref (q 5), .int (x23 * (4 : Int32)), .ref (q 11)]) (c_Log_copyOffset hc31) T_260 T_280 T_4 T_258 T_259 4 rfl rfl rfl (by decide +kernel) (by decide) rfl rfl (Nat.le_of_ble_eq_true rfl) d_Log_append_106 ?_
          refine xw_iconst C d_Log_append_109 (v := 4) (by decide) ?_
          obtain ⟨hb34, h⟩ := gd_e h
          refine xw_copy C T_281 T_215 T_214 T_8 11 5 6 1 rfl rfl rfl rfl hb34 (by decide) (Nat.le_of_ble_eq_true rfl) d_Log_append_110 (σ1 := (st2 s32 5 (va_cpy (s32 11) (s32 5) (Int32.toNatClampNeg (x23 * (4 : Int32))) (Int32.toNatClampNeg r33) (Int32.toNatClampNeg (4 : Int32))))) rfl ?_
          refine xw_ns h (fun s35 h => ?_)
          refine xw_iinc C h (fun v => [(4, .int v), (0, .ref (q 4)), (1, .int y24), (2, .ref (q 10)), (3, .int y25)]) d_Log_append_113 4 rfl (by decide) (fun _ => rfl) (fun x36 h => ?_)
          refine xw_goto C d_Log_append_116 (tgt := 71) (by decide) ?_
          exact xw_lv [1, 2, 3, 4, 0] rfl (ih _ _ h)
  unfold f_Log_append_10 at h
  refine xw_aload_n C d_Log_append_0 0 rfl ?_
  refine xw_get C F_Log_ok 4 rfl rfl 6 (by decide) T_56 rfl d_Log_append_1 ?_
  refine xw_ni h (fun x1 h => ?_)
  refine xw_istore_n C d_Log_append_4 rfl (by decide) (lv1 := [(3, .int x1), (0, .ref (q 4)), (1, .int a1), (2, .ref (q 10))]) rfl ?_
  refine xw_aload_n C d_Log_append_5 1 rfl ?_
  refine xw_dup C d_Log_append_6 rfl ?_
  refine xw_get C F_Log_ok 4 rfl rfl 6 (by decide) T_56 rfl d_Log_append_7 ?_
  refine xw_iconst C d_Log_append_10 (v := 1) (by decide) ?_
  refine xw_iadd C d_Log_append_11 ?_
  refine xw_put C F_Log_ok 4 rfl rfl 6 (by decide) T_56 rfl rfl rfl (Nat.le_of_ble_eq_true rfl) d_Log_append_12 (σ1 := (up2 s0 4 6 ((s0 4 6) + (1 : Int32)))) rfl ?_
  refine xw_ns h (fun s2 h => ?_)
  refine xw_aload_n C d_Log_append_15 1 rfl ?_
  refine xw_get C F_Log_ok 4 rfl rfl 1 (by decide) T_51 rfl d_Log_append_16 ?_
  refine xw_aload_n C d_Log_append_19 1 rfl ?_
  refine xw_iload_n C d_Log_append_20 0 rfl ?_
  obtain ⟨r5, s4, hc3, h⟩ := bd_e h
  refine xw_callV_i C tj_Tg tj_Ng (n := 1) (As := [.int x1]) (rest := [.ref (q 6)]) (c_Log_slot hc3) T_236 T_233 T_4 T_235 S_7 4 rfl rfl rfl (by decide +kernel) (by decide) rfl rfl (Nat.le_of_ble_eq_true rfl) d_Log_append_21 ?_
  refine xw_aload_n C d_Log_append_24 1 rfl ?_
  refine xw_get C F_Log_ok 4 rfl rfl 7 (by decide) T_59 rfl d_Log_append_25 ?_
  obtain ⟨hb6, h⟩ := gd_e h
  refine xw_iast C 6 2 rfl rfl hb6 d_Log_append_28 (σ1 := (up2 s4 6 (Int32.toNatClampNeg r5) (s4 4 7))) rfl ?_
  refine xw_ns h (fun s7 h => ?_)
  refine xw_aload_n C d_Log_append_29 1 rfl ?_
  refine xw_get C F_Log_ok 4 rfl rfl 2 (by decide) T_52 rfl d_Log_append_30 ?_
  refine xw_aload_n C d_Log_append_33 1 rfl ?_
  refine xw_iload_n C d_Log_append_34 0 rfl ?_
  obtain ⟨r10, s9, hc8, h⟩ := bd_e h
  refine xw_callV_i C tj_Tg tj_Ng (n := 1) (As := [.int x1]) (rest := [.ref (q 7)]) (c_Log_slot hc8) T_236 T_233 T_4 T_235 S_7 4 rfl rfl rfl (by decide +kernel) (by decide) rfl rfl (Nat.le_of_ble_eq_true rfl) d_Log_append_35 ?_
  refine xw_iload_n C d_Log_append_38 2 rfl ?_
  obtain ⟨hb11, h⟩ := gd_e h
  refine xw_iast C 7 3 rfl rfl hb11 d_Log_append_39 (σ1 := (up2 s9 7 (Int32.toNatClampNeg r10) a1)) rfl ?_
  refine xw_ns h (fun s12 h => ?_)
  refine xw_aload_n C d_Log_append_40 1 rfl ?_
  refine xw_get C F_Log_ok 4 rfl rfl 3 (by decide) T_53 rfl d_Log_append_41 ?_
  refine xw_aload_n C d_Log_append_44 1 rfl ?_
  refine xw_iload_n C d_Log_append_45 0 rfl ?_
  obtain ⟨r15, s14, hc13, h⟩ := bd_e h
  refine xw_callV_i C tj_Tg tj_Ng (n := 1) (As := [.int x1]) (rest := [.ref (q 8)]) (c_Log_slot hc13) T_236 T_233 T_4 T_235 S_7 4 rfl rfl rfl (by decide +kernel) (by decide) rfl rfl (Nat.le_of_ble_eq_true rfl) d_Log_append_46 ?_
  refine xw_aload_n C d_Log_append_49 3 rfl ?_
  refine xw_getN C F_Mem_ok 10 rfl rfl 3 (by decide) "ThreeModeJournal" N_105 rfl d_Log_append_50 ?_
  obtain ⟨hb16, h⟩ := gd_e h
  refine xw_iast C 8 4 rfl rfl hb16 d_Log_append_53 (σ1 := (up2 s14 8 (Int32.toNatClampNeg r15) (s14 10 3))) rfl ?_
  refine xw_ns h (fun s17 h => ?_)
  refine xw_aload_n C d_Log_append_54 1 rfl ?_
  refine xw_get C F_Log_ok 4 rfl rfl 4 (by decide) T_54 rfl d_Log_append_55 ?_
  refine xw_aload_n C d_Log_append_58 1 rfl ?_
  refine xw_iload_n C d_Log_append_59 0 rfl ?_
  obtain ⟨r20, s19, hc18, h⟩ := bd_e h
  refine xw_callV_i C tj_Tg tj_Ng (n := 1) (As := [.int x1]) (rest := [.ref (q 9)]) (c_Log_slot hc18) T_236 T_233 T_4 T_235 S_7 4 rfl rfl rfl (by decide +kernel) (by decide) rfl rfl (Nat.le_of_ble_eq_true rfl) d_Log_append_60 ?_
  refine xw_aload_n C d_Log_append_63 3 rfl ?_
  refine xw_getN C F_Mem_ok 10 rfl rfl 4 (by decide) "ThreeModeJournal" N_107 rfl d_Log_append_64 ?_
  obtain ⟨hb21, h⟩ := gd_e h
  refine xw_iast C 9 5 rfl rfl hb21 d_Log_append_67 (σ1 := (up2 s19 9 (Int32.toNatClampNeg r20) (s19 10 4))) rfl ?_
  refine xw_ns h (fun s22 h => ?_)
  refine xw_iconst C d_Log_append_68 (v := 0) (by decide) ?_
  refine xw_istore C d_Log_append_69 (by decide) (lv1 := [(4, .int (0 : Int32)), (3, .int x1), (0, .ref (q 4)), (1, .int a1), (2, .ref (q 10))]) rfl ?_
  refine xw_lv [2, 3, 4, 1, 0] rfl (L71 _ _ _ (fun x41 s42 h => ?_) 100 _ _ h)
  refine xw_aload_n C d_Log_append_119 0 rfl ?_
  refine xw_aload_n C d_Log_append_120 0 rfl ?_
  refine xw_get C F_Log_ok 4 rfl rfl 7 (by decide) T_59 rfl d_Log_append_121 ?_
  refine xw_iload_n C d_Log_append_124 1 rfl ?_
  refine xw_iadd C d_Log_append_125 ?_
  refine xw_bipush C d_Log_append_126 (v := 24) (by decide) ?_
  refine xw_irem C d_Log_append_128 (by decide) ?_
  refine xw_put C F_Log_ok 4 rfl rfl 7 (by decide) T_59 rfl rfl rfl (Nat.le_of_ble_eq_true rfl) d_Log_append_129 (σ1 := (up2 s42 4 7 (((s42 4 7) + a1) - ((s42 4 7) + a1) / (24 : Int32) * (24 : Int32)))) rfl ?_
  refine xw_ns h (fun s43 h => ?_)
  exact fin _ _ _ h d_Log_append_132
def f_Disk_writeTransaction_10_L2 (y2 : Int32) (k : Int32 → tj_S → Option (Int32 × tj_S)) : Nat → Int32 → tj_S → Option (Int32 × tj_S)
  | 0, _, _ => none
  | n + 1, x1, s3 =>
    if y2 ≤ x1 then
      k x1 s3
    else
      bd (f_Power_makeWrite s3) fun r6 s5 =>
      if r6 = (0 : Int32) then
        some ((0 : Int32), s5)
      else
        nm (x1 + Int32.ofInt 1) fun x7 =>
        f_Disk_writeTransaction_10_L2 y2 k n x7 s5
def f_Disk_writeTransaction_10 (a1 : Int32) (s0 : tj_S) : Option (Int32 × tj_S) :=
  f_Disk_writeTransaction_10_L2 a1 (fun x12 s13 =>
    bv (f_Log_append_10 a1 s13) fun s15 =>
    some ((1 : Int32), s15)) 100 (0 : Int32) s0
set_option maxRecDepth 100000 in
set_option maxHeartbeats 4000000 in
theorem c_Disk_writeTransaction_10 {l : Launch} {D : va_G} {K : Nat → ClassId} {q : Nat → Nat} {a1 : Int32} {s0 sE : tj_S} {rE : Int32} (h : f_Disk_writeTransaction_10 a1 s0 = some (rE, sE)) : tj_Mi l D tj_cls (X_tys K) tj_N tj_T (X_cw K q) y_Disk_writeTransaction b_Disk_writeTransaction 4 .boolean 3 69 [.ref (q 2), .int a1, .ref (q 10)] s0 rE sE := by
  refine tj_start_i (by decide +kernel) (Nat.le_of_ble_eq_true rfl) (fun Γ C fin => ?_)
  show tj_W Γ (X_cw K q) s0 [(0, .ref (q 2)), (1, .int a1), (2, .ref (q 10))] 0 []
  have L2 : ∀ (y2 : Int32) (k : Int32 → tj_S → Option (Int32 × tj_S)), (∀ (x10 : Int32) (s11 : tj_S), k x10 s11 = some (rE, sE) → tj_W Γ (X_cw K q) s11 [(0, .ref (q 2)), (1, .int y2), (2, .ref (q 10)), (3, .int x10)] 25 []) → ∀ (n : Nat) (x1 : Int32) (s3 : tj_S), f_Disk_writeTransaction_10_L2 y2 k n x1 s3 = some (rE, sE) → tj_W Γ (X_cw K q) s3 [(0, .ref (q 2)), (1, .int y2), (2, .ref (q 10)), (3, .int x1)] 2 [] := by
    intro y2 k hk n
    induction n with
    | zero => intro x1 s3 h; rw [f_Disk_writeTransaction_10_L2] at h; cases h
    | succ n ih =>
      intro x1 s3 h
      rw [f_Disk_writeTransaction_10_L2] at h
      refine xw_iload_n C d_Disk_writeTransaction_2 3 rfl ?_
      refine xw_iload_n C d_Disk_writeTransaction_3 1 rfl ?_
      refine xw_icmp_ge C d_Disk_writeTransaction_4 (tgt := 25) (by decide) (fun hc9 => ?_) (fun hc9 => ?_)
      · replace h := it_t hc9 h
        exact xw_lv [0, 1, 2, 3] rfl (hk _ _ h)
      · replace h := it_f hc9 h
        refine xw_aload_n C d_Disk_writeTransaction_7 0 rfl ?_
        refine xw_get C F_Disk_ok 2 rfl rfl 0 (by decide) T_79 rfl d_Disk_writeTransaction_8 ?_
        obtain ⟨r6, s5, hc4, h⟩ := bd_e h
        refine xw_callV_i C tj_Tg tj_Ng (n := 0) (As := []) (rest := []) (c_Power_makeWrite hc4) T_209 T_206 T_3 T_207 T_208 1 rfl rfl rfl (by decide +kernel) (by decide) rfl rfl (Nat.le_of_ble_eq_true rfl) d_Disk_writeTransaction_11 ?_
        refine xw_if_ne C d_Disk_writeTransaction_14 (tgt := 19) (by decide) (fun hc8 => ?_) (fun hc8 => ?_)
        · replace h := it_f hc8 h
          refine xw_iinc C h (fun v => [(3, .int v), (0, .ref (q 2)), (1, .int y2), (2, .ref (q 10))]) d_Disk_writeTransaction_19 3 rfl (by decide) (fun _ => rfl) (fun x7 h => ?_)
          refine xw_goto C d_Disk_writeTransaction_22 (tgt := 2) (by decide) ?_
          exact xw_lv [1, 2, 3, 0] rfl (ih _ _ h)
        · replace h := it_t hc8 h
          refine xw_iconst C d_Disk_writeTransaction_17 (v := 0) (by decide) ?_
          exact fin _ _ _ _ h d_Disk_writeTransaction_18 rfl
  unfold f_Disk_writeTransaction_10 at h
  refine xw_iconst C d_Disk_writeTransaction_0 (v := 0) (by decide) ?_
  refine xw_istore_n C d_Disk_writeTransaction_1 rfl (by decide) (lv1 := [(3, .int (0 : Int32)), (0, .ref (q 2)), (1, .int a1), (2, .ref (q 10))]) rfl ?_
  refine xw_lv [1, 2, 3, 0] rfl (L2 _ _ (fun x12 s13 h => ?_) 100 _ _ h)
  refine xw_aload_n C d_Disk_writeTransaction_25 0 rfl ?_
  refine xw_get C F_Disk_ok 2 rfl rfl 2 (by decide) T_83 rfl d_Disk_writeTransaction_26 ?_
  refine xw_iload_n C d_Disk_writeTransaction_29 1 rfl ?_
  refine xw_aload_n C d_Disk_writeTransaction_30 2 rfl ?_
  obtain ⟨s15, hc14, h⟩ := bv_e h
  refine xw_callV_v C tj_Tg tj_Ng (n := 2) (As := [.int a1, .ref (q 10)]) (rest := []) (c_Log_append_10 hc14) T_278 T_275 T_4 T_276 T_277 4 rfl rfl rfl (by decide +kernel) (by decide) rfl rfl (Nat.le_of_ble_eq_true rfl) d_Disk_writeTransaction_31 ?_
  refine xw_iconst C d_Disk_writeTransaction_34 (v := 1) (by decide) ?_
  exact fin _ _ _ _ h d_Disk_writeTransaction_35 rfl
def f_Mem_startTransaction (s0 : tj_S) : Option (tj_S) :=
  nm (up2 s0 10 3 (0 : Int32)) fun s1 =>
  nm (up2 s1 10 4 (0 : Int32)) fun s2 =>
  bd (f_Mem_blocksInUse s2) fun r5 s4 =>
  nm (up2 s4 10 5 r5) fun s6 =>
  some s6
set_option maxRecDepth 100000 in
set_option maxHeartbeats 4000000 in
theorem c_Mem_startTransaction {l : Launch} {D : va_G} {K : Nat → ClassId} {q : Nat → Nat} {s0 sE : tj_S} (h : f_Mem_startTransaction s0 = some sE) : tj_Mv l D tj_cls (X_tys K) tj_N tj_T (X_cw K q) y_Mem_startTransaction b_Mem_startTransaction 1 1 20 [.ref (q 10)] s0 sE := by
  refine tj_start_v (by decide +kernel) (Nat.le_of_ble_eq_true rfl) (fun Γ C fin => ?_)
  show tj_W Γ (X_cw K q) s0 [(0, .ref (q 10))] 0 []
  unfold f_Mem_startTransaction at h
  refine xw_aload_n C d_Mem_startTransaction_0 0 rfl ?_
  refine xw_iconst C d_Mem_startTransaction_1 (v := 0) (by decide) ?_
  refine xw_put C F_Mem_ok 10 rfl rfl 3 (by decide) T_104 rfl rfl rfl (Nat.le_of_ble_eq_true rfl) d_Mem_startTransaction_2 (σ1 := (up2 s0 10 3 (0 : Int32))) rfl ?_
  refine xw_ns h (fun s1 h => ?_)
  refine xw_aload_n C d_Mem_startTransaction_5 0 rfl ?_
  refine xw_iconst C d_Mem_startTransaction_6 (v := 0) (by decide) ?_
  refine xw_put C F_Mem_ok 10 rfl rfl 4 (by decide) T_106 rfl rfl rfl (Nat.le_of_ble_eq_true rfl) d_Mem_startTransaction_7 (σ1 := (up2 s1 10 4 (0 : Int32))) rfl ?_
  refine xw_ns h (fun s2 h => ?_)
  refine xw_aload_n C d_Mem_startTransaction_10 0 rfl ?_
  refine xw_aload_n C d_Mem_startTransaction_11 0 rfl ?_
  obtain ⟨r5, s4, hc3, h⟩ := bd_e h
  refine xw_callV_i C tj_Tg tj_Ng (n := 0) (As := []) (rest := [.ref (q 10)]) (c_Mem_blocksInUse hc3) T_167 T_164 T_5 T_166 S_1 10 rfl rfl rfl (by decide +kernel) (by decide) rfl rfl (Nat.le_of_ble_eq_true rfl) d_Mem_startTransaction_12 ?_
  refine xw_put C F_Mem_ok 10 rfl rfl 5 (by decide) T_108 rfl rfl rfl (Nat.le_of_ble_eq_true rfl) d_Mem_startTransaction_15 (σ1 := (up2 s4 10 5 r5)) rfl ?_
  refine xw_ns h (fun s6 h => ?_)
  exact fin _ _ _ h d_Mem_startTransaction_18
def f_Mem_dirtyAt (a1 : Int32) (s0 : tj_S) : Option (Int32 × tj_S) :=
  if a1 < (0 : Int32) then
    some ((0 : Int32), s0)
  else
    if (s0 10 2) ≤ a1 then
      some ((0 : Int32), s0)
    else
      gd (inb a1 16) <|
      some ((s0 12 (Int32.toNatClampNeg a1)), s0)
set_option maxRecDepth 100000 in
set_option maxHeartbeats 4000000 in
theorem c_Mem_dirtyAt {l : Launch} {D : va_G} {K : Nat → ClassId} {q : Nat → Nat} {a1 : Int32} {s0 sE : tj_S} {rE : Int32} (h : f_Mem_dirtyAt a1 s0 = some (rE, sE)) : tj_Mi l D tj_cls (X_tys K) tj_N tj_T (X_cw K q) y_Mem_dirtyAt b_Mem_dirtyAt 2 .int 0 0 [.ref (q 10), .int a1] s0 rE sE := by
  refine tj_start_i (by decide +kernel) (Nat.le_of_ble_eq_true rfl) (fun Γ C fin => ?_)
  show tj_W Γ (X_cw K q) s0 [(0, .ref (q 10)), (1, .int a1)] 0 []
  unfold f_Mem_dirtyAt at h
  refine xw_iload_n C d_Mem_dirtyAt_0 1 rfl ?_
  refine xw_if_lt C d_Mem_dirtyAt_1 (tgt := 21) (by decide) (fun hc3 => ?_) (fun hc3 => ?_)
  · replace h := it_t hc3 h
    refine xw_iconst C d_Mem_dirtyAt_21 (v := 0) (by decide) ?_
    exact fin _ _ _ _ h d_Mem_dirtyAt_22 rfl
  · replace h := it_f hc3 h
    refine xw_iload_n C d_Mem_dirtyAt_4 1 rfl ?_
    refine xw_aload_n C d_Mem_dirtyAt_5 0 rfl ?_
    refine xw_get C F_Mem_ok 10 rfl rfl 2 (by decide) T_102 rfl d_Mem_dirtyAt_6 ?_
    refine xw_icmp_ge C d_Mem_dirtyAt_9 (tgt := 21) (by decide) (fun hc2 => ?_) (fun hc2 => ?_)
    · replace h := it_t hc2 h
      refine xw_iconst C d_Mem_dirtyAt_21 (v := 0) (by decide) ?_
      exact fin _ _ _ _ h d_Mem_dirtyAt_22 rfl
    · replace h := it_f hc2 h
      refine xw_aload_n C d_Mem_dirtyAt_12 0 rfl ?_
      refine xw_get C F_Mem_ok 10 rfl rfl 1 (by decide) T_101 rfl d_Mem_dirtyAt_13 ?_
      refine xw_iload_n C d_Mem_dirtyAt_16 1 rfl ?_
      obtain ⟨hb1, h⟩ := gd_e h
      refine xw_iald C 12 7 rfl rfl hb1 d_Mem_dirtyAt_17 ?_
      refine xw_goto C d_Mem_dirtyAt_18 (tgt := 22) (by decide) ?_
      exact fin _ _ _ _ h d_Mem_dirtyAt_22 rfl
def f_Disk_writeHome_11 (a1 a3 : Int32) (s0 : tj_S) : Option (Int32 × tj_S) :=
  bd (f_Power_makeWrite s0) fun r3 s2 =>
  if r3 = (0 : Int32) then
    some ((0 : Int32), s2)
  else
    bd (f_X_isBlock a1 s2) fun r6 s5 =>
    if r6 = (0 : Int32) then
      some ((1 : Int32), s5)
    else
      if a3 < (0 : Int32) then
        some ((1 : Int32), s5)
      else
        if (92 : Int32) < (a3 + (4 : Int32)) then
          some ((1 : Int32), s5)
        else
          gd (cpb a3 (a1 * (4 : Int32)) (4 : Int32) 92 92) <|
          nm (st2 s5 3 (va_cpy (s5 11) (s5 3) (Int32.toNatClampNeg a3) (Int32.toNatClampNeg (a1 * (4 : Int32))) (Int32.toNatClampNeg (4 : Int32)))) fun s8 =>
          some ((1 : Int32), s8)
set_option maxRecDepth 100000 in
set_option maxHeartbeats 4000000 in
theorem c_Disk_writeHome_11 {l : Launch} {D : va_G} {K : Nat → ClassId} {q : Nat → Nat} {a1 a3 : Int32} {s0 sE : tj_S} {rE : Int32} (h : f_Disk_writeHome_11 a1 a3 s0 = some (rE, sE)) : tj_Mi l D tj_cls (X_tys K) tj_N tj_T (X_cw K q) y_Disk_writeHome b_Disk_writeHome 4 .boolean 1 40 [.ref (q 2), .int a1, .ref (q 11), .int a3] s0 rE sE := by
  refine tj_start_i (by decide +kernel) (Nat.le_of_ble_eq_true rfl) (fun Γ C fin => ?_)
  show tj_W Γ (X_cw K q) s0 [(0, .ref (q 2)), (1, .int a1), (2, .ref (q 11)), (3, .int a3)] 0 []
  unfold f_Disk_writeHome_11 at h
  refine xw_aload_n C d_Disk_writeHome_0 0 rfl ?_
  refine xw_get C F_Disk_ok 2 rfl rfl 0 (by decide) T_79 rfl d_Disk_writeHome_1 ?_
  obtain ⟨r3, s2, hc1, h⟩ := bd_e h
  refine xw_callV_i C tj_Tg tj_Ng (n := 0) (As := []) (rest := []) (c_Power_makeWrite hc1) T_209 T_206 T_3 T_207 T_208 1 rfl rfl rfl (by decide +kernel) (by decide) rfl rfl (Nat.le_of_ble_eq_true rfl) d_Disk_writeHome_4 ?_
  refine xw_if_ne C d_Disk_writeHome_7 (tgt := 12) (by decide) (fun hc12 => ?_) (fun hc12 => ?_)
  · replace h := it_f hc12 h
    refine xw_iload_n C d_Disk_writeHome_12 1 rfl ?_
    obtain ⟨r6, s5, hc4, h⟩ := bd_e h
    refine xw_callSN_i C tj_Tg tj_Ng (n := 1) (As := [.int a1]) (rest := []) (c_X_isBlock hc4) T_212 "ThreeModeJournal" N_210 T_1 T_211 (by decide +kernel) (by decide) rfl rfl (Nat.le_of_ble_eq_true rfl) d_Disk_writeHome_13 ?_
    refine xw_if_eq C d_Disk_writeHome_16 (tgt := 44) (by decide) (fun hc11 => ?_) (fun hc11 => ?_)
    · replace h := it_t hc11 h
      refine xw_iconst C d_Disk_writeHome_44 (v := 1) (by decide) ?_
      exact fin _ _ _ _ h d_Disk_writeHome_45 rfl
    · replace h := it_f hc11 h
      refine xw_iload_n C d_Disk_writeHome_19 3 rfl ?_
      refine xw_if_lt C d_Disk_writeHome_20 (tgt := 44) (by decide) (fun hc10 => ?_) (fun hc10 => ?_)
      · replace h := it_t hc10 h
        refine xw_iconst C d_Disk_writeHome_44 (v := 1) (by decide) ?_
        exact fin _ _ _ _ h d_Disk_writeHome_45 rfl
      · replace h := it_f hc10 h
        refine xw_iload_n C d_Disk_writeHome_23 3 rfl ?_
        refine xw_iconst C d_Disk_writeHome_24 (v := 4) (by decide) ?_
        refine xw_iadd C d_Disk_writeHome_25 ?_
        refine xw_aload_n C d_Disk_writeHome_26 2 rfl ?_
        refine xw_alen C 11 6 rfl rfl (v := 92) rfl d_Disk_writeHome_27 ?_
        refine xw_icmp_gt C d_Disk_writeHome_28 (tgt := 44) (by decide) (fun hc9 => ?_) (fun hc9 => ?_)
        · replace h := it_t hc9 h
          refine xw_iconst C d_Disk_writeHome_44 (v := 1) (by decide) ?_
          exact fin _ _ _ _ h d_Disk_writeHome_45 rfl
        · replace h := it_f hc9 h
          refine xw_aload_n C d_Disk_writeHome_31 2 rfl ?_
          refine xw_iload_n C d_Disk_writeHome_32 3 rfl ?_
          refine xw_aload_n C d_Disk_writeHome_33 0 rfl ?_
          refine xw_get C F_Disk_ok 2 rfl rfl 1 (by decide) T_81 rfl d_Disk_writeHome_34 ?_
          refine xw_iload_n C d_Disk_writeHome_37 1 rfl ?_
          refine xw_iconst C d_Disk_writeHome_38 (v := 4) (by decide) ?_
          refine xw_imul C d_Disk_writeHome_39 ?_
          refine xw_iconst C d_Disk_writeHome_40 (v := 4) (by decide) ?_
          obtain ⟨hb7, h⟩ := gd_e h
          refine xw_copy C T_213 T_215 T_214 T_8 11 3 6 0 rfl rfl rfl rfl hb7 (by decide) (Nat.le_of_ble_eq_true rfl) d_Disk_writeHome_41 (σ1 := (st2 s5 3 (va_cpy (s5 11) (s5 3) (Int32.toNatClampNeg a3) (Int32.toNatClampNeg (a1 * (4 : Int32))) (Int32.toNatClampNeg (4 : Int32))))) rfl ?_
          refine xw_ns h (fun s8 h => ?_)
          refine xw_iconst C d_Disk_writeHome_44 (v := 1) (by decide) ?_
          exact fin _ _ _ _ h d_Disk_writeHome_45 rfl
  · replace h := it_t hc12 h
    refine xw_iconst C d_Disk_writeHome_10 (v := 0) (by decide) ?_
    exact fin _ _ _ _ h d_Disk_writeHome_11 rfl
def f_Mem_dirtyPlace_L2 (y2 : Int32) (k : Int32 → tj_S → Option (Int32 × tj_S)) : Nat → Int32 → tj_S → Option (Int32 × tj_S)
  | 0, _, _ => none
  | n + 1, x1, s3 =>
    if (s3 10 2) ≤ x1 then
      k x1 s3
    else
      gd (inb x1 16) <|
      if (s3 12 (Int32.toNatClampNeg x1)) = y2 then
        k x1 s3
      else
        nm (x1 + Int32.ofInt 1) fun x5 =>
        f_Mem_dirtyPlace_L2 y2 k n x5 s3
def f_Mem_dirtyPlace (a1 : Int32) (s0 : tj_S) : Option (Int32 × tj_S) :=
  f_Mem_dirtyPlace_L2 a1 (fun x10 s11 =>
    some (x10, s11)) 100 (0 : Int32) s0
set_option maxRecDepth 100000 in
set_option maxHeartbeats 4000000 in
theorem c_Mem_dirtyPlace {l : Launch} {D : va_G} {K : Nat → ClassId} {q : Nat → Nat} {a1 : Int32} {s0 sE : tj_S} {rE : Int32} (h : f_Mem_dirtyPlace a1 s0 = some (rE, sE)) : tj_Mi l D tj_cls (X_tys K) tj_N tj_T (X_cw K q) y_Mem_dirtyPlace b_Mem_dirtyPlace 3 .int 0 0 [.ref (q 10), .int a1] s0 rE sE := by
  refine tj_start_i (by decide +kernel) (Nat.le_of_ble_eq_true rfl) (fun Γ C fin => ?_)
  show tj_W Γ (X_cw K q) s0 [(0, .ref (q 10)), (1, .int a1)] 0 []
  have L2 : ∀ (y2 : Int32) (k : Int32 → tj_S → Option (Int32 × tj_S)), (∀ (x8 : Int32) (s9 : tj_S), k x8 s9 = some (rE, sE) → tj_W Γ (X_cw K q) s9 [(0, .ref (q 10)), (1, .int y2), (2, .int x8)] 26 []) → ∀ (n : Nat) (x1 : Int32) (s3 : tj_S), f_Mem_dirtyPlace_L2 y2 k n x1 s3 = some (rE, sE) → tj_W Γ (X_cw K q) s3 [(0, .ref (q 10)), (1, .int y2), (2, .int x1)] 2 [] := by
    intro y2 k hk n
    induction n with
    | zero => intro x1 s3 h; rw [f_Mem_dirtyPlace_L2] at h; cases h
    | succ n ih =>
      intro x1 s3 h
      rw [f_Mem_dirtyPlace_L2] at h
      refine xw_iload_n C d_Mem_dirtyPlace_2 2 rfl ?_
      refine xw_aload_n C d_Mem_dirtyPlace_3 0 rfl ?_
      refine xw_get C F_Mem_ok 10 rfl rfl 2 (by decide) T_102 rfl d_Mem_dirtyPlace_4 ?_
      refine xw_icmp_ge C d_Mem_dirtyPlace_7 (tgt := 26) (by decide) (fun hc7 => ?_) (fun hc7 => ?_)
      · replace h := it_t hc7 h
        exact xw_lv [0, 1, 2] rfl (hk _ _ h)
      · replace h := it_f hc7 h
        refine xw_aload_n C d_Mem_dirtyPlace_10 0 rfl ?_
        refine xw_get C F_Mem_ok 10 rfl rfl 1 (by decide) T_101 rfl d_Mem_dirtyPlace_11 ?_
        refine xw_iload_n C d_Mem_dirtyPlace_14 2 rfl ?_
        obtain ⟨hb4, h⟩ := gd_e h
        refine xw_iald C 12 7 rfl rfl hb4 d_Mem_dirtyPlace_15 ?_
        refine xw_iload_n C d_Mem_dirtyPlace_16 1 rfl ?_
        refine xw_icmp_eq C d_Mem_dirtyPlace_17 (tgt := 26) (by decide) (fun hc6 => ?_) (fun hc6 => ?_)
        · replace h := it_t hc6 h
          exact xw_lv [0, 1, 2] rfl (hk _ _ h)
        · replace h := it_f hc6 h
          refine xw_iinc C h (fun v => [(2, .int v), (0, .ref (q 10)), (1, .int y2)]) d_Mem_dirtyPlace_20 2 rfl (by decide) (fun _ => rfl) (fun x5 h => ?_)
          refine xw_goto C d_Mem_dirtyPlace_23 (tgt := 2) (by decide) ?_
          exact xw_lv [1, 2, 0] rfl (ih _ _ h)
  unfold f_Mem_dirtyPlace at h
  refine xw_iconst C d_Mem_dirtyPlace_0 (v := 0) (by decide) ?_
  refine xw_istore_n C d_Mem_dirtyPlace_1 rfl (by decide) (lv1 := [(2, .int (0 : Int32)), (0, .ref (q 10)), (1, .int a1)]) rfl ?_
  refine xw_lv [1, 2, 0] rfl (L2 _ _ (fun x10 s11 h => ?_) 100 _ _ h)
  refine xw_iload_n C d_Mem_dirtyPlace_26 2 rfl ?_
  exact fin _ _ _ _ h d_Mem_dirtyPlace_27 rfl
def f_Mem_makeClean (a1 : Int32) (s0 : tj_S) : Option (tj_S) :=
  bd (f_Mem_dirtyPlace a1 s0) fun r3 s2 =>
  if r3 = (s2 10 2) then
    some s2
  else
    nm (up2 s2 10 2 ((s2 10 2) - (1 : Int32))) fun s4 =>
    gd (cpb (r3 + (1 : Int32)) r3 ((s4 10 2) - r3) 16 16) <|
    nm (st2 s4 12 (va_cpy (s4 12) (s4 12) (Int32.toNatClampNeg (r3 + (1 : Int32))) (Int32.toNatClampNeg r3) (Int32.toNatClampNeg ((s4 10 2) - r3)))) fun s6 =>
    some s6
set_option maxRecDepth 100000 in
set_option maxHeartbeats 4000000 in
theorem c_Mem_makeClean {l : Launch} {D : va_G} {K : Nat → ClassId} {q : Nat → Nat} {a1 : Int32} {s0 sE : tj_S} (h : f_Mem_makeClean a1 s0 = some sE) : tj_Mv l D tj_cls (X_tys K) tj_N tj_T (X_cw K q) y_Mem_makeClean b_Mem_makeClean 3 1 40 [.ref (q 10), .int a1] s0 sE := by
  refine tj_start_v (by decide +kernel) (Nat.le_of_ble_eq_true rfl) (fun Γ C fin => ?_)
  show tj_W Γ (X_cw K q) s0 [(0, .ref (q 10)), (1, .int a1)] 0 []
  unfold f_Mem_makeClean at h
  refine xw_aload_n C d_Mem_makeClean_0 0 rfl ?_
  refine xw_iload_n C d_Mem_makeClean_1 1 rfl ?_
  obtain ⟨r3, s2, hc1, h⟩ := bd_e h
  refine xw_callV_i C tj_Tg tj_Ng (n := 1) (As := [.int a1]) (rest := []) (c_Mem_dirtyPlace hc1) T_223 T_220 T_5 T_222 S_6 10 rfl rfl rfl (by decide +kernel) (by decide) rfl rfl (Nat.le_of_ble_eq_true rfl) d_Mem_makeClean_2 ?_
  refine xw_istore_n C d_Mem_makeClean_5 rfl (by decide) (lv1 := [(2, .int r3), (0, .ref (q 10)), (1, .int a1)]) rfl ?_
  refine xw_iload_n C d_Mem_makeClean_6 0 rfl ?_
  refine xw_aload_n C d_Mem_makeClean_7 1 rfl ?_
  refine xw_get C F_Mem_ok 10 rfl rfl 2 (by decide) T_102 rfl d_Mem_makeClean_8 ?_
  refine xw_icmp_ne C d_Mem_makeClean_11 (tgt := 15) (by decide) (fun hc7 => ?_) (fun hc7 => ?_)
  · replace h := it_f hc7 h
    refine xw_aload_n C d_Mem_makeClean_15 1 rfl ?_
    refine xw_dup C d_Mem_makeClean_16 rfl ?_
    refine xw_get C F_Mem_ok 10 rfl rfl 2 (by decide) T_102 rfl d_Mem_makeClean_17 ?_
    refine xw_iconst C d_Mem_makeClean_20 (v := 1) (by decide) ?_
    refine xw_isub C d_Mem_makeClean_21 ?_
    refine xw_put C F_Mem_ok 10 rfl rfl 2 (by decide) T_102 rfl rfl rfl (Nat.le_of_ble_eq_true rfl) d_Mem_makeClean_22 (σ1 := (up2 s2 10 2 ((s2 10 2) - (1 : Int32)))) rfl ?_
    refine xw_ns h (fun s4 h => ?_)
    refine xw_aload_n C d_Mem_makeClean_25 1 rfl ?_
    refine xw_get C F_Mem_ok 10 rfl rfl 1 (by decide) T_101 rfl d_Mem_makeClean_26 ?_
    refine xw_iload_n C d_Mem_makeClean_29 0 rfl ?_
    refine xw_iconst C d_Mem_makeClean_30 (v := 1) (by decide) ?_
    refine xw_iadd C d_Mem_makeClean_31 ?_
    refine xw_aload_n C d_Mem_makeClean_32 1 rfl ?_
    refine xw_get C F_Mem_ok 10 rfl rfl 1 (by decide) T_101 rfl d_Mem_makeClean_33 ?_
    refine xw_iload_n C d_Mem_makeClean_36 0 rfl ?_
    refine xw_aload_n C d_Mem_makeClean_37 1 rfl ?_
    refine xw_get C F_Mem_ok 10 rfl rfl 2 (by decide) T_102 rfl d_Mem_makeClean_38 ?_
    refine xw_iload_n C d_Mem_makeClean_41 0 rfl ?_
    refine xw_isub C d_Mem_makeClean_42 ?_
    obtain ⟨hb5, h⟩ := gd_e h
    refine xw_copy C T_224 T_215 T_214 T_8 12 12 7 7 rfl rfl rfl rfl hb5 (by decide) (Nat.le_of_ble_eq_true rfl) d_Mem_makeClean_43 (σ1 := (st2 s4 12 (va_cpy (s4 12) (s4 12) (Int32.toNatClampNeg (r3 + (1 : Int32))) (Int32.toNatClampNeg r3) (Int32.toNatClampNeg ((s4 10 2) - r3))))) rfl ?_
    refine xw_ns h (fun s6 h => ?_)
    exact fin _ _ _ h d_Mem_makeClean_46
  · replace h := it_t hc7 h
    exact fin _ _ _ h d_Mem_makeClean_14
def f_X_writeDirtyHome (a1 : Int32) (s0 : tj_S) : Option (Int32 × tj_S) :=
  bd (f_Disk_writeHome_11 a1 (a1 * (4 : Int32)) s0) fun r3 s2 =>
  if r3 = (0 : Int32) then
    some ((0 : Int32), s2)
  else
    bv (f_Mem_makeClean a1 s2) fun s5 =>
    some ((1 : Int32), s5)
set_option maxRecDepth 100000 in
set_option maxHeartbeats 4000000 in
theorem c_X_writeDirtyHome {l : Launch} {D : va_G} {K : Nat → ClassId} {q : Nat → Nat} {a1 : Int32} {s0 sE : tj_S} {rE : Int32} (h : f_X_writeDirtyHome a1 s0 = some (rE, sE)) : tj_Mi l D tj_cls (X_tys K) tj_N tj_T (X_cw K q) y_X_writeDirtyHome b_X_writeDirtyHome 2 .boolean 2 63 [.ref (q 0), .int a1] s0 rE sE := by
  refine tj_start_i (by decide +kernel) (Nat.le_of_ble_eq_true rfl) (fun Γ C fin => ?_)
  show tj_W Γ (X_cw K q) s0 [(0, .ref (q 0)), (1, .int a1)] 0 []
  unfold f_X_writeDirtyHome at h
  refine xw_aload_n C d_X_writeDirtyHome_0 0 rfl ?_
  refine xw_get C F_X_ok 0 rfl rfl 1 (by decide) T_123 rfl d_X_writeDirtyHome_1 ?_
  refine xw_iload_n C d_X_writeDirtyHome_4 1 rfl ?_
  refine xw_aload_n C d_X_writeDirtyHome_5 0 rfl ?_
  refine xw_get C F_X_ok 0 rfl rfl 2 (by decide) T_124 rfl d_X_writeDirtyHome_6 ?_
  refine xw_getN C F_Mem_ok 10 rfl rfl 0 (by decide) "ThreeModeJournal" N_100 rfl d_X_writeDirtyHome_9 ?_
  refine xw_iload_n C d_X_writeDirtyHome_12 1 rfl ?_
  refine xw_iconst C d_X_writeDirtyHome_13 (v := 4) (by decide) ?_
  refine xw_imul C d_X_writeDirtyHome_14 ?_
  obtain ⟨r3, s2, hc1, h⟩ := bd_e h
  refine xw_callV_i C tj_Tg tj_Ng (n := 3) (As := [.int a1, .ref (q 11), .int (a1 * (4 : Int32))]) (rest := []) (c_Disk_writeHome_11 hc1) T_205 T_202 T_2 T_203 T_204 2 rfl rfl rfl (by decide +kernel) (by decide) rfl rfl (Nat.le_of_ble_eq_true rfl) d_X_writeDirtyHome_15 ?_
  refine xw_if_ne C d_X_writeDirtyHome_18 (tgt := 23) (by decide) (fun hc6 => ?_) (fun hc6 => ?_)
  · replace h := it_f hc6 h
    refine xw_aload_n C d_X_writeDirtyHome_23 0 rfl ?_
    refine xw_get C F_X_ok 0 rfl rfl 2 (by decide) T_124 rfl d_X_writeDirtyHome_24 ?_
    refine xw_iload_n C d_X_writeDirtyHome_27 1 rfl ?_
    obtain ⟨s5, hc4, h⟩ := bv_e h
    refine xw_callV_v C tj_Tg tj_Ng (n := 1) (As := [.int a1]) (rest := []) (c_Mem_makeClean hc4) T_219 T_216 T_5 T_217 T_218 10 rfl rfl rfl (by decide +kernel) (by decide) rfl rfl (Nat.le_of_ble_eq_true rfl) d_X_writeDirtyHome_28 ?_
    refine xw_iconst C d_X_writeDirtyHome_31 (v := 1) (by decide) ?_
    exact fin _ _ _ _ h d_X_writeDirtyHome_32 rfl
  · replace h := it_t hc6 h
    refine xw_iconst C d_X_writeDirtyHome_21 (v := 0) (by decide) ?_
    exact fin _ _ _ _ h d_X_writeDirtyHome_22 rfl
def f_X_writeFirstDirty_L2 (y2 : Int32) (k : Int32 → tj_S → Option (Int32 × tj_S)) : Nat → Int32 → tj_S → Option (Int32 × tj_S)
  | 0, _, _ => none
  | n + 1, x1, s3 =>
    if y2 ≤ x1 then
      k x1 s3
    else
      bd (f_Mem_dirtyAt (0 : Int32) s3) fun r6 s5 =>
      bd (f_X_writeDirtyHome r6 s5) fun r9 s8 =>
      if r9 = (0 : Int32) then
        some ((0 : Int32), s8)
      else
        nm (x1 + Int32.ofInt 1) fun x10 =>
        f_X_writeFirstDirty_L2 y2 k n x10 s8
def f_X_writeFirstDirty (a1 : Int32) (s0 : tj_S) : Option (Int32 × tj_S) :=
  f_X_writeFirstDirty_L2 a1 (fun x15 s16 =>
    some ((1 : Int32), s16)) 100 (0 : Int32) s0
set_option maxRecDepth 100000 in
set_option maxHeartbeats 4000000 in
theorem c_X_writeFirstDirty {l : Launch} {D : va_G} {K : Nat → ClassId} {q : Nat → Nat} {a1 : Int32} {s0 sE : tj_S} {rE : Int32} (h : f_X_writeFirstDirty a1 s0 = some (rE, sE)) : tj_Mi l D tj_cls (X_tys K) tj_N tj_T (X_cw K q) y_X_writeFirstDirty b_X_writeFirstDirty 3 .boolean 3 84 [.ref (q 0), .int a1] s0 rE sE := by
  refine tj_start_i (by decide +kernel) (Nat.le_of_ble_eq_true rfl) (fun Γ C fin => ?_)
  show tj_W Γ (X_cw K q) s0 [(0, .ref (q 0)), (1, .int a1)] 0 []
  have L2 : ∀ (y2 : Int32) (k : Int32 → tj_S → Option (Int32 × tj_S)), (∀ (x13 : Int32) (s14 : tj_S), k x13 s14 = some (rE, sE) → tj_W Γ (X_cw K q) s14 [(0, .ref (q 0)), (1, .int y2), (2, .int x13)] 30 []) → ∀ (n : Nat) (x1 : Int32) (s3 : tj_S), f_X_writeFirstDirty_L2 y2 k n x1 s3 = some (rE, sE) → tj_W Γ (X_cw K q) s3 [(0, .ref (q 0)), (1, .int y2), (2, .int x1)] 2 [] := by
    intro y2 k hk n
    induction n with
    | zero => intro x1 s3 h; rw [f_X_writeFirstDirty_L2] at h; cases h
    | succ n ih =>
      intro x1 s3 h
      rw [f_X_writeFirstDirty_L2] at h
      refine xw_iload_n C d_X_writeFirstDirty_2 2 rfl ?_
      refine xw_iload_n C d_X_writeFirstDirty_3 1 rfl ?_
      refine xw_icmp_ge C d_X_writeFirstDirty_4 (tgt := 30) (by decide) (fun hc12 => ?_) (fun hc12 => ?_)
      · replace h := it_t hc12 h
        exact xw_lv [0, 1, 2] rfl (hk _ _ h)
      · replace h := it_f hc12 h
        refine xw_aload_n C d_X_writeFirstDirty_7 0 rfl ?_
        refine xw_aload_n C d_X_writeFirstDirty_8 0 rfl ?_
        refine xw_get C F_X_ok 0 rfl rfl 2 (by decide) T_124 rfl d_X_writeFirstDirty_9 ?_
        refine xw_iconst C d_X_writeFirstDirty_12 (v := 0) (by decide) ?_
        obtain ⟨r6, s5, hc4, h⟩ := bd_e h
        refine xw_callV_i C tj_Tg tj_Ng (n := 1) (As := [.int (0 : Int32)]) (rest := [.ref (q 0)]) (c_Mem_dirtyAt hc4) T_197 T_194 T_5 T_195 T_196 10 rfl rfl rfl (by decide +kernel) (by decide) rfl rfl (Nat.le_of_ble_eq_true rfl) d_X_writeFirstDirty_13 ?_
        obtain ⟨r9, s8, hc7, h⟩ := bd_e h
        refine xw_callV_i C tj_Tg tj_Ng (n := 1) (As := [.int r6]) (rest := []) (c_X_writeDirtyHome hc7) T_201 T_198 T_1 T_200 S_5 0 rfl rfl rfl (by decide +kernel) (by decide) rfl rfl (Nat.le_of_ble_eq_true rfl) d_X_writeFirstDirty_16 ?_
        refine xw_if_ne C d_X_writeFirstDirty_19 (tgt := 24) (by decide) (fun hc11 => ?_) (fun hc11 => ?_)
        · replace h := it_f hc11 h
          refine xw_iinc C h (fun v => [(2, .int v), (0, .ref (q 0)), (1, .int y2)]) d_X_writeFirstDirty_24 2 rfl (by decide) (fun _ => rfl) (fun x10 h => ?_)
          refine xw_goto C d_X_writeFirstDirty_27 (tgt := 2) (by decide) ?_
          exact xw_lv [1, 2, 0] rfl (ih _ _ h)
        · replace h := it_t hc11 h
          refine xw_iconst C d_X_writeFirstDirty_22 (v := 0) (by decide) ?_
          exact fin _ _ _ _ h d_X_writeFirstDirty_23 rfl
  unfold f_X_writeFirstDirty at h
  refine xw_iconst C d_X_writeFirstDirty_0 (v := 0) (by decide) ?_
  refine xw_istore_n C d_X_writeFirstDirty_1 rfl (by decide) (lv1 := [(2, .int (0 : Int32)), (0, .ref (q 0)), (1, .int a1)]) rfl ?_
  refine xw_lv [1, 2, 0] rfl (L2 _ _ (fun x15 s16 h => ?_) 100 _ _ h)
  refine xw_iconst C d_X_writeFirstDirty_30 (v := 1) (by decide) ?_
  exact fin _ _ _ _ h d_X_writeFirstDirty_31 rfl
def f_X_commitRunning (s0 : tj_S) : Option (Int32 × tj_S) :=
  if (s0 0 3) = (1 : Int32) then
    bd (f_X_writeFirstDirty (s0 10 2) s0) fun r20 s19 =>
    if r20 = (0 : Int32) then
      some ((-2 : Int32), s19)
    else
      bd (f_Mem_logBlocksNeeded s19) fun r23 s22 =>
      if r23 = (0 : Int32) then
        some ((0 : Int32), s22)
      else
        bd (f_Log_oldestInTheWayOf r23 s22) fun r26 s25 =>
        bd (f_Disk_checkpointOldest r26 s25) fun r29 s28 =>
        if r29 = (0 : Int32) then
          some ((-2 : Int32), s28)
        else
          bd (f_Disk_writeTransaction_10 r23 s28) fun r32 s31 =>
          if r32 = (0 : Int32) then
            some ((-2 : Int32), s31)
          else
            bv (f_Mem_startTransaction s31) fun s34 =>
            some (r23, s34)
  else
    bd (f_Mem_logBlocksNeeded s0) fun r3 s2 =>
    if r3 = (0 : Int32) then
      some ((0 : Int32), s2)
    else
      bd (f_Log_oldestInTheWayOf r3 s2) fun r6 s5 =>
      bd (f_Disk_checkpointOldest r6 s5) fun r9 s8 =>
      if r9 = (0 : Int32) then
        some ((-2 : Int32), s8)
      else
        bd (f_Disk_writeTransaction_10 r3 s8) fun r12 s11 =>
        if r12 = (0 : Int32) then
          some ((-2 : Int32), s11)
        else
          bv (f_Mem_startTransaction s11) fun s14 =>
          some (r3, s14)
set_option maxRecDepth 100000 in
set_option maxHeartbeats 4000000 in
theorem c_X_commitRunning {l : Launch} {D : va_G} {K : Nat → ClassId} {q : Nat → Nat} {s0 sE : tj_S} {rE : Int32} (h : f_X_commitRunning s0 = some (rE, sE)) : tj_Mi l D tj_cls (X_tys K) tj_N tj_T (X_cw K q) y_X_commitRunning b_X_commitRunning 2 .int 4 108 [.ref (q 0)] s0 rE sE := by
  refine tj_start_i (by decide +kernel) (Nat.le_of_ble_eq_true rfl) (fun Γ C fin => ?_)
  show tj_W Γ (X_cw K q) s0 [(0, .ref (q 0))] 0 []
  unfold f_X_commitRunning at h
  refine xw_aload_n C d_X_commitRunning_0 0 rfl ?_
  refine xw_get C F_X_ok 0 rfl rfl 3 (by decide) T_125 rfl d_X_commitRunning_1 ?_
  refine xw_iconst C d_X_commitRunning_4 (v := 1) (by decide) ?_
  refine xw_icmp_ne C d_X_commitRunning_5 (tgt := 25) (by decide) (fun hc39 => ?_) (fun hc39 => ?_)
  · replace h := it_f hc39 h
    refine xw_aload_n C d_X_commitRunning_25 0 rfl ?_
    refine xw_get C F_X_ok 0 rfl rfl 2 (by decide) T_124 rfl d_X_commitRunning_26 ?_
    obtain ⟨r3, s2, hc1, h⟩ := bd_e h
    refine xw_callV_i C tj_Tg tj_Ng (n := 0) (As := []) (rest := []) (c_Mem_logBlocksNeeded hc1) T_182 T_179 T_5 T_180 T_181 10 rfl rfl rfl (by decide +kernel) (by decide) rfl rfl (Nat.le_of_ble_eq_true rfl) d_X_commitRunning_29 ?_
    refine xw_istore_n C d_X_commitRunning_32 rfl (by decide) (lv1 := [(1, .int r3), (0, .ref (q 0))]) rfl ?_
    refine xw_iload_n C d_X_commitRunning_33 0 rfl ?_
    refine xw_if_ne C d_X_commitRunning_34 (tgt := 39) (by decide) (fun hc17 => ?_) (fun hc17 => ?_)
    · replace h := it_f hc17 h
      refine xw_aload_n C d_X_commitRunning_39 1 rfl ?_
      refine xw_get C F_X_ok 0 rfl rfl 1 (by decide) T_123 rfl d_X_commitRunning_40 ?_
      refine xw_aload_n C d_X_commitRunning_43 1 rfl ?_
      refine xw_get C F_X_ok 0 rfl rfl 1 (by decide) T_123 rfl d_X_commitRunning_44 ?_
      refine xw_getN C F_Disk_ok 2 rfl rfl 2 (by decide) "ThreeModeJournal" N_84 rfl d_X_commitRunning_47 ?_
      refine xw_iload_n C d_X_commitRunning_50 0 rfl ?_
      obtain ⟨r6, s5, hc4, h⟩ := bd_e h
      refine xw_callV_i C tj_Tg tj_Ng (n := 1) (As := [.int r3]) (rest := [.ref (q 2)]) (c_Log_oldestInTheWayOf hc4) T_228 T_225 T_4 T_226 T_227 4 rfl rfl rfl (by decide +kernel) (by decide) rfl rfl (Nat.le_of_ble_eq_true rfl) d_X_commitRunning_51 ?_
      obtain ⟨r9, s8, hc7, h⟩ := bd_e h
      refine xw_callV_i C tj_Tg tj_Ng (n := 1) (As := [.int r6]) (rest := []) (c_Disk_checkpointOldest hc7) T_240 T_237 T_2 T_238 T_239 2 rfl rfl rfl (by decide +kernel) (by decide) rfl rfl (Nat.le_of_ble_eq_true rfl) d_X_commitRunning_54 ?_
      refine xw_if_eq C d_X_commitRunning_57 (tgt := 75) (by decide) (fun hc16 => ?_) (fun hc16 => ?_)
      · replace h := it_t hc16 h
        refine xw_bipush C d_X_commitRunning_75 (v := -2) (by decide) ?_
        exact fin _ _ _ _ h d_X_commitRunning_77 rfl
      · replace h := it_f hc16 h
        refine xw_aload_n C d_X_commitRunning_60 1 rfl ?_
        refine xw_get C F_X_ok 0 rfl rfl 1 (by decide) T_123 rfl d_X_commitRunning_61 ?_
        refine xw_iload_n C d_X_commitRunning_64 0 rfl ?_
        refine xw_aload_n C d_X_commitRunning_65 1 rfl ?_
        refine xw_get C F_X_ok 0 rfl rfl 2 (by decide) T_124 rfl d_X_commitRunning_66 ?_
        obtain ⟨r12, s11, hc10, h⟩ := bd_e h
        refine xw_callV_i C tj_Tg tj_Ng (n := 2) (As := [.int r3, .ref (q 10)]) (rest := []) (c_Disk_writeTransaction_10 hc10) T_274 T_271 T_2 T_272 T_273 2 rfl rfl rfl (by decide +kernel) (by decide) rfl rfl (Nat.le_of_ble_eq_true rfl) d_X_commitRunning_69 ?_
        refine xw_if_ne C d_X_commitRunning_72 (tgt := 78) (by decide) (fun hc15 => ?_) (fun hc15 => ?_)
        · replace h := it_f hc15 h
          refine xw_aload_n C d_X_commitRunning_78 1 rfl ?_
          refine xw_get C F_X_ok 0 rfl rfl 2 (by decide) T_124 rfl d_X_commitRunning_79 ?_
          obtain ⟨s14, hc13, h⟩ := bv_e h
          refine xw_callV_v C tj_Tg tj_Ng (n := 0) (As := []) (rest := []) (c_Mem_startTransaction hc13) T_285 T_282 T_5 T_283 T_284 10 rfl rfl rfl (by decide +kernel) (by decide) rfl rfl (Nat.le_of_ble_eq_true rfl) d_X_commitRunning_82 ?_
          refine xw_iload_n C d_X_commitRunning_85 0 rfl ?_
          exact fin _ _ _ _ h d_X_commitRunning_86 rfl
        · replace h := it_t hc15 h
          refine xw_bipush C d_X_commitRunning_75 (v := -2) (by decide) ?_
          exact fin _ _ _ _ h d_X_commitRunning_77 rfl
    · replace h := it_t hc17 h
      refine xw_iconst C d_X_commitRunning_37 (v := 0) (by decide) ?_
      exact fin _ _ _ _ h d_X_commitRunning_38 rfl
  · replace h := it_t hc39 h
    refine xw_aload_n C d_X_commitRunning_8 0 rfl ?_
    refine xw_aload_n C d_X_commitRunning_9 0 rfl ?_
    refine xw_get C F_X_ok 0 rfl rfl 2 (by decide) T_124 rfl d_X_commitRunning_10 ?_
    refine xw_getN C F_Mem_ok 10 rfl rfl 2 (by decide) "ThreeModeJournal" N_103 rfl d_X_commitRunning_13 ?_
    obtain ⟨r20, s19, hc18, h⟩ := bd_e h
    refine xw_callV_i C tj_Tg tj_Ng (n := 1) (As := [.int (s0 10 2)]) (rest := []) (c_X_writeFirstDirty hc18) T_193 T_190 T_1 T_192 S_4 0 rfl rfl rfl (by decide +kernel) (by decide) rfl rfl (Nat.le_of_ble_eq_true rfl) d_X_commitRunning_16 ?_
    refine xw_if_ne C d_X_commitRunning_19 (tgt := 25) (by decide) (fun hc38 => ?_) (fun hc38 => ?_)
    · replace h := it_f hc38 h
      refine xw_aload_n C d_X_commitRunning_25 0 rfl ?_
      refine xw_get C F_X_ok 0 rfl rfl 2 (by decide) T_124 rfl d_X_commitRunning_26 ?_
      obtain ⟨r23, s22, hc21, h⟩ := bd_e h
      refine xw_callV_i C tj_Tg tj_Ng (n := 0) (As := []) (rest := []) (c_Mem_logBlocksNeeded hc21) T_182 T_179 T_5 T_180 T_181 10 rfl rfl rfl (by decide +kernel) (by decide) rfl rfl (Nat.le_of_ble_eq_true rfl) d_X_commitRunning_29 ?_
      refine xw_istore_n C d_X_commitRunning_32 rfl (by decide) (lv1 := [(1, .int r23), (0, .ref (q 0))]) rfl ?_
      refine xw_iload_n C d_X_commitRunning_33 0 rfl ?_
      refine xw_if_ne C d_X_commitRunning_34 (tgt := 39) (by decide) (fun hc37 => ?_) (fun hc37 => ?_)
      · replace h := it_f hc37 h
        refine xw_aload_n C d_X_commitRunning_39 1 rfl ?_
        refine xw_get C F_X_ok 0 rfl rfl 1 (by decide) T_123 rfl d_X_commitRunning_40 ?_
        refine xw_aload_n C d_X_commitRunning_43 1 rfl ?_
        refine xw_get C F_X_ok 0 rfl rfl 1 (by decide) T_123 rfl d_X_commitRunning_44 ?_
        refine xw_getN C F_Disk_ok 2 rfl rfl 2 (by decide) "ThreeModeJournal" N_84 rfl d_X_commitRunning_47 ?_
        refine xw_iload_n C d_X_commitRunning_50 0 rfl ?_
        obtain ⟨r26, s25, hc24, h⟩ := bd_e h
        refine xw_callV_i C tj_Tg tj_Ng (n := 1) (As := [.int r23]) (rest := [.ref (q 2)]) (c_Log_oldestInTheWayOf hc24) T_228 T_225 T_4 T_226 T_227 4 rfl rfl rfl (by decide +kernel) (by decide) rfl rfl (Nat.le_of_ble_eq_true rfl) d_X_commitRunning_51 ?_
        obtain ⟨r29, s28, hc27, h⟩ := bd_e h
        refine xw_callV_i C tj_Tg tj_Ng (n := 1) (As := [.int r26]) (rest := []) (c_Disk_checkpointOldest hc27) T_240 T_237 T_2 T_238 T_239 2 rfl rfl rfl (by decide +kernel) (by decide) rfl rfl (Nat.le_of_ble_eq_true rfl) d_X_commitRunning_54 ?_
        refine xw_if_eq C d_X_commitRunning_57 (tgt := 75) (by decide) (fun hc36 => ?_) (fun hc36 => ?_)
        · replace h := it_t hc36 h
          refine xw_bipush C d_X_commitRunning_75 (v := -2) (by decide) ?_
          exact fin _ _ _ _ h d_X_commitRunning_77 rfl
        · replace h := it_f hc36 h
          refine xw_aload_n C d_X_commitRunning_60 1 rfl ?_
          refine xw_get C F_X_ok 0 rfl rfl 1 (by decide) T_123 rfl d_X_commitRunning_61 ?_
          refine xw_iload_n C d_X_commitRunning_64 0 rfl ?_
          refine xw_aload_n C d_X_commitRunning_65 1 rfl ?_
          refine xw_get C F_X_ok 0 rfl rfl 2 (by decide) T_124 rfl d_X_commitRunning_66 ?_
          obtain ⟨r32, s31, hc30, h⟩ := bd_e h
          refine xw_callV_i C tj_Tg tj_Ng (n := 2) (As := [.int r23, .ref (q 10)]) (rest := []) (c_Disk_writeTransaction_10 hc30) T_274 T_271 T_2 T_272 T_273 2 rfl rfl rfl (by decide +kernel) (by decide) rfl rfl (Nat.le_of_ble_eq_true rfl) d_X_commitRunning_69 ?_
          refine xw_if_ne C d_X_commitRunning_72 (tgt := 78) (by decide) (fun hc35 => ?_) (fun hc35 => ?_)
          · replace h := it_f hc35 h
            refine xw_aload_n C d_X_commitRunning_78 1 rfl ?_
            refine xw_get C F_X_ok 0 rfl rfl 2 (by decide) T_124 rfl d_X_commitRunning_79 ?_
            obtain ⟨s34, hc33, h⟩ := bv_e h
            refine xw_callV_v C tj_Tg tj_Ng (n := 0) (As := []) (rest := []) (c_Mem_startTransaction hc33) T_285 T_282 T_5 T_283 T_284 10 rfl rfl rfl (by decide +kernel) (by decide) rfl rfl (Nat.le_of_ble_eq_true rfl) d_X_commitRunning_82 ?_
            refine xw_iload_n C d_X_commitRunning_85 0 rfl ?_
            exact fin _ _ _ _ h d_X_commitRunning_86 rfl
          · replace h := it_t hc35 h
            refine xw_bipush C d_X_commitRunning_75 (v := -2) (by decide) ?_
            exact fin _ _ _ _ h d_X_commitRunning_77 rfl
      · replace h := it_t hc37 h
        refine xw_iconst C d_X_commitRunning_37 (v := 0) (by decide) ?_
        exact fin _ _ _ _ h d_X_commitRunning_38 rfl
    · replace h := it_t hc38 h
      refine xw_bipush C d_X_commitRunning_22 (v := -2) (by decide) ?_
      exact fin _ _ _ _ h d_X_commitRunning_24 rfl
