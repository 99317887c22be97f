def f_Mod_free (s0 : tj_S) : Option (Int32 × tj_S) :=
  if (s0 0 12) = (0 : Int32) then
    some ((-1 : Int32), s0)
  else
    bd (f_Mod_opens s0) fun r3 s2 =>
    some (r3, s2)
set_option maxRecDepth 100000 in
set_option maxHeartbeats 4000000 in
theorem c_Mod_free {l : Launch} {D : va_G} {K : Nat → ClassId} {q : Nat → Nat} {s0 sE : tj_S} {rE : Int32} (h : f_Mod_free s0 = some (rE, sE)) : tj_Mi l D tj_cls (M_tys K) tj_N tj_T (M_cw K q) y_Mod_free b_Mod_free 1 .int 3 67 [.ref (q 0)] s0 rE sE := by
  refine tj_start_i (by decide +kernel) (Nat.le_of_ble_eq_true rfl) (fun Γ C fin => ?_)
  show tj_W Γ (M_cw K q) s0 [(0, .ref (q 0))] 0 []
  unfold f_Mod_free at h
  refine xw_aload_n C d_Mod_free_0 0 rfl ?_
  refine xw_get C F_Mod_ok 0 rfl rfl 12 (by decide) T_485 rfl d_Mod_free_1 ?_
  refine xw_if_eq C d_Mod_free_4 (tgt := 14) (by decide) (fun hc4 => ?_) (fun hc4 => ?_)
  · replace h := it_t hc4 h
    refine xw_iconst C d_Mod_free_14 (v := -1) (by decide) ?_
    exact fin _ _ _ _ h d_Mod_free_15 rfl
  · replace h := it_f hc4 h
    refine xw_aload_n C d_Mod_free_7 0 rfl ?_
    obtain ⟨r3, s2, hc1, h⟩ := bd_e h
    refine xw_callV_i C tj_Tg tj_Ng (n := 0) (As := []) (rest := []) (c_Mod_opens hc1) T_536 T_533 T_6 T_535 S_18 0 rfl rfl rfl (by decide +kernel) (by decide) rfl rfl (Nat.le_of_ble_eq_true rfl) d_Mod_free_8 ?_
    refine xw_goto C d_Mod_free_11 (tgt := 15) (by decide) ?_
    exact fin _ _ _ _ h d_Mod_free_15 rfl
def f_Mod_writes (s0 : tj_S) : Option (Int32 × tj_S) :=
  some ((s0 0 15), s0)
set_option maxRecDepth 100000 in
set_option maxHeartbeats 4000000 in
theorem c_Mod_writes {l : Launch} {D : va_G} {K : Nat → ClassId} {q : Nat → Nat} {s0 sE : tj_S} {rE : Int32} (h : f_Mod_writes s0 = some (rE, sE)) : tj_Mi l D tj_cls (M_tys K) tj_N tj_T (M_cw K q) y_Mod_writes b_Mod_writes 1 .int 0 0 [.ref (q 0)] s0 rE sE := by
  refine tj_start_i (by decide +kernel) (Nat.le_of_ble_eq_true rfl) (fun Γ C fin => ?_)
  show tj_W Γ (M_cw K q) s0 [(0, .ref (q 0))] 0 []
  unfold f_Mod_writes at h
  refine xw_aload_n C d_Mod_writes_0 0 rfl ?_
  refine xw_get C F_Mod_ok 0 rfl rfl 15 (by decide) T_488 rfl d_Mod_writes_1 ?_
  exact fin _ _ _ _ h d_Mod_writes_4 rfl
