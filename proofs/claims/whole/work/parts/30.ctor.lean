theorem d_Power_init_0 : decode b_Power_init 0 = .ok (.aload_n 0, 1) := by decide +kernel
theorem d_Power_init_1 : decode b_Power_init 1 = .ok (.invokespecial 3, 3) := by decide +kernel
theorem d_Power_init_4 : decode b_Power_init 4 = .ok (.aload_n 0, 1) := by decide +kernel
theorem d_Power_init_5 : decode b_Power_init 5 = .ok (.iconst 1, 1) := by decide +kernel
theorem d_Power_init_6 : decode b_Power_init 6 = .ok (.putfield 9, 3) := by decide +kernel
theorem d_Power_init_9 : decode b_Power_init 9 = .ok (.aload_n 0, 1) := by decide +kernel
theorem d_Power_init_10 : decode b_Power_init 10 = .ok (.iconst (-1), 1) := by decide +kernel
theorem d_Power_init_11 : decode b_Power_init 11 = .ok (.putfield 15, 3) := by decide +kernel
theorem d_Power_init_14 : decode b_Power_init 14 = .ok (.aload_n 0, 1) := by decide +kernel
theorem d_Power_init_15 : decode b_Power_init 15 = .ok (.iconst 0, 1) := by decide +kernel
theorem d_Power_init_16 : decode b_Power_init 16 = .ok (.putfield 19, 3) := by decide +kernel
theorem d_Power_init_19 : decode b_Power_init 19 = .ok (.return_, 1) := by decide +kernel
theorem d_Log_init_0 : decode b_Log_init 0 = .ok (.aload_n 0, 1) := by decide +kernel
theorem d_Log_init_1 : decode b_Log_init 1 = .ok (.invokespecial 3, 3) := by decide +kernel
theorem d_Log_init_4 : decode b_Log_init 4 = .ok (.aload_n 0, 1) := by decide +kernel
theorem d_Log_init_5 : decode b_Log_init 5 = .ok (.bipush 96, 2) := by decide +kernel
theorem d_Log_init_7 : decode b_Log_init 7 = .ok (.newarray .int, 2) := by decide +kernel
theorem d_Log_init_9 : decode b_Log_init 9 = .ok (.putfield 9, 3) := by decide +kernel
theorem d_Log_init_12 : decode b_Log_init 12 = .ok (.aload_n 0, 1) := by decide +kernel
theorem d_Log_init_13 : decode b_Log_init 13 = .ok (.bipush 8, 2) := by decide +kernel
theorem d_Log_init_15 : decode b_Log_init 15 = .ok (.newarray .int, 2) := by decide +kernel
theorem d_Log_init_17 : decode b_Log_init 17 = .ok (.putfield 15, 3) := by decide +kernel
theorem d_Log_init_20 : decode b_Log_init 20 = .ok (.aload_n 0, 1) := by decide +kernel
theorem d_Log_init_21 : decode b_Log_init 21 = .ok (.bipush 8, 2) := by decide +kernel
theorem d_Log_init_23 : decode b_Log_init 23 = .ok (.newarray .int, 2) := by decide +kernel
theorem d_Log_init_25 : decode b_Log_init 25 = .ok (.putfield 18, 3) := by decide +kernel
theorem d_Log_init_28 : decode b_Log_init 28 = .ok (.aload_n 0, 1) := by decide +kernel
theorem d_Log_init_29 : decode b_Log_init 29 = .ok (.bipush 8, 2) := by decide +kernel
theorem d_Log_init_31 : decode b_Log_init 31 = .ok (.newarray .int, 2) := by decide +kernel
theorem d_Log_init_33 : decode b_Log_init 33 = .ok (.putfield 21, 3) := by decide +kernel
theorem d_Log_init_36 : decode b_Log_init 36 = .ok (.aload_n 0, 1) := by decide +kernel
theorem d_Log_init_37 : decode b_Log_init 37 = .ok (.bipush 8, 2) := by decide +kernel
theorem d_Log_init_39 : decode b_Log_init 39 = .ok (.newarray .int, 2) := by decide +kernel
theorem d_Log_init_41 : decode b_Log_init 41 = .ok (.putfield 24, 3) := by decide +kernel
theorem d_Log_init_44 : decode b_Log_init 44 = .ok (.aload_n 0, 1) := by decide +kernel
theorem d_Log_init_45 : decode b_Log_init 45 = .ok (.iconst 0, 1) := by decide +kernel
theorem d_Log_init_46 : decode b_Log_init 46 = .ok (.putfield 27, 3) := by decide +kernel
theorem d_Log_init_49 : decode b_Log_init 49 = .ok (.aload_n 0, 1) := by decide +kernel
theorem d_Log_init_50 : decode b_Log_init 50 = .ok (.iconst 0, 1) := by decide +kernel
theorem d_Log_init_51 : decode b_Log_init 51 = .ok (.putfield 31, 3) := by decide +kernel
theorem d_Log_init_54 : decode b_Log_init 54 = .ok (.aload_n 0, 1) := by decide +kernel
theorem d_Log_init_55 : decode b_Log_init 55 = .ok (.iconst 0, 1) := by decide +kernel
theorem d_Log_init_56 : decode b_Log_init 56 = .ok (.putfield 34, 3) := by decide +kernel
theorem d_Log_init_59 : decode b_Log_init 59 = .ok (.return_, 1) := by decide +kernel
theorem d_Disk_init_0 : decode b_Disk_init 0 = .ok (.aload_n 0, 1) := by decide +kernel
theorem d_Disk_init_1 : decode b_Disk_init 1 = .ok (.invokespecial 3, 3) := by decide +kernel
theorem d_Disk_init_4 : decode b_Disk_init 4 = .ok (.aload_n 0, 1) := by decide +kernel
theorem d_Disk_init_5 : decode b_Disk_init 5 = .ok (.new 9, 3) := by decide +kernel
theorem d_Disk_init_8 : decode b_Disk_init 8 = .ok (.dup, 1) := by decide +kernel
theorem d_Disk_init_9 : decode b_Disk_init 9 = .ok (.invokespecial 11, 3) := by decide +kernel
theorem d_Disk_init_12 : decode b_Disk_init 12 = .ok (.putfield 12, 3) := by decide +kernel
theorem d_Disk_init_15 : decode b_Disk_init 15 = .ok (.aload_n 0, 1) := by decide +kernel
theorem d_Disk_init_16 : decode b_Disk_init 16 = .ok (.bipush 92, 2) := by decide +kernel
theorem d_Disk_init_18 : decode b_Disk_init 18 = .ok (.newarray .int, 2) := by decide +kernel
theorem d_Disk_init_20 : decode b_Disk_init 20 = .ok (.putfield 18, 3) := by decide +kernel
theorem d_Disk_init_23 : decode b_Disk_init 23 = .ok (.aload_n 0, 1) := by decide +kernel
theorem d_Disk_init_24 : decode b_Disk_init 24 = .ok (.new 22, 3) := by decide +kernel
theorem d_Disk_init_27 : decode b_Disk_init 27 = .ok (.dup, 1) := by decide +kernel
theorem d_Disk_init_28 : decode b_Disk_init 28 = .ok (.invokespecial 24, 3) := by decide +kernel
theorem d_Disk_init_31 : decode b_Disk_init 31 = .ok (.putfield 25, 3) := by decide +kernel
theorem d_Disk_init_34 : decode b_Disk_init 34 = .ok (.return_, 1) := by decide +kernel
theorem d_Mem_init_0 : decode b_Mem_init 0 = .ok (.aload_n 0, 1) := by decide +kernel
theorem d_Mem_init_1 : decode b_Mem_init 1 = .ok (.invokespecial 3, 3) := by decide +kernel
theorem d_Mem_init_4 : decode b_Mem_init 4 = .ok (.aload_n 0, 1) := by decide +kernel
theorem d_Mem_init_5 : decode b_Mem_init 5 = .ok (.bipush 92, 2) := by decide +kernel
theorem d_Mem_init_7 : decode b_Mem_init 7 = .ok (.newarray .int, 2) := by decide +kernel
theorem d_Mem_init_9 : decode b_Mem_init 9 = .ok (.putfield 9, 3) := by decide +kernel
theorem d_Mem_init_12 : decode b_Mem_init 12 = .ok (.aload_n 0, 1) := by decide +kernel
theorem d_Mem_init_13 : decode b_Mem_init 13 = .ok (.bipush 16, 2) := by decide +kernel
theorem d_Mem_init_15 : decode b_Mem_init 15 = .ok (.newarray .int, 2) := by decide +kernel
theorem d_Mem_init_17 : decode b_Mem_init 17 = .ok (.putfield 15, 3) := by decide +kernel
theorem d_Mem_init_20 : decode b_Mem_init 20 = .ok (.aload_n 0, 1) := by decide +kernel
theorem d_Mem_init_21 : decode b_Mem_init 21 = .ok (.iconst 0, 1) := by decide +kernel
theorem d_Mem_init_22 : decode b_Mem_init 22 = .ok (.putfield 18, 3) := by decide +kernel
theorem d_Mem_init_25 : decode b_Mem_init 25 = .ok (.aload_n 0, 1) := by decide +kernel
theorem d_Mem_init_26 : decode b_Mem_init 26 = .ok (.iconst 0, 1) := by decide +kernel
theorem d_Mem_init_27 : decode b_Mem_init 27 = .ok (.putfield 22, 3) := by decide +kernel
theorem d_Mem_init_30 : decode b_Mem_init 30 = .ok (.aload_n 0, 1) := by decide +kernel
theorem d_Mem_init_31 : decode b_Mem_init 31 = .ok (.iconst 0, 1) := by decide +kernel
theorem d_Mem_init_32 : decode b_Mem_init 32 = .ok (.putfield 25, 3) := by decide +kernel
theorem d_Mem_init_35 : decode b_Mem_init 35 = .ok (.aload_n 0, 1) := by decide +kernel
theorem d_Mem_init_36 : decode b_Mem_init 36 = .ok (.iconst 0, 1) := by decide +kernel
theorem d_Mem_init_37 : decode b_Mem_init 37 = .ok (.putfield 28, 3) := by decide +kernel
theorem d_Mem_init_40 : decode b_Mem_init 40 = .ok (.return_, 1) := by decide +kernel
theorem d_X_init_0 : decode b_X_init 0 = .ok (.aload_n 0, 1) := by decide +kernel
theorem d_X_init_1 : decode b_X_init 1 = .ok (.invokespecial 1, 3) := by decide +kernel
theorem d_X_init_4 : decode b_X_init 4 = .ok (.aload_n 0, 1) := by decide +kernel
theorem d_X_init_5 : decode b_X_init 5 = .ok (.new 7, 3) := by decide +kernel
theorem d_X_init_8 : decode b_X_init 8 = .ok (.dup, 1) := by decide +kernel
theorem d_X_init_9 : decode b_X_init 9 = .ok (.invokespecial 9, 3) := by decide +kernel
theorem d_X_init_12 : decode b_X_init 12 = .ok (.putfield 10, 3) := by decide +kernel
theorem d_X_init_15 : decode b_X_init 15 = .ok (.aload_n 0, 1) := by decide +kernel
theorem d_X_init_16 : decode b_X_init 16 = .ok (.aload_n 0, 1) := by decide +kernel
theorem d_X_init_17 : decode b_X_init 17 = .ok (.getfield 10, 3) := by decide +kernel
theorem d_X_init_20 : decode b_X_init 20 = .ok (.getfield 16, 3) := by decide +kernel
theorem d_X_init_23 : decode b_X_init 23 = .ok (.putfield 20, 3) := by decide +kernel
theorem d_X_init_26 : decode b_X_init 26 = .ok (.aload_n 0, 1) := by decide +kernel
theorem d_X_init_27 : decode b_X_init 27 = .ok (.new 21, 3) := by decide +kernel
theorem d_X_init_30 : decode b_X_init 30 = .ok (.dup, 1) := by decide +kernel
theorem d_X_init_31 : decode b_X_init 31 = .ok (.invokespecial 23, 3) := by decide +kernel
theorem d_X_init_34 : decode b_X_init 34 = .ok (.putfield 24, 3) := by decide +kernel
theorem d_X_init_37 : decode b_X_init 37 = .ok (.aload_n 0, 1) := by decide +kernel
theorem d_X_init_38 : decode b_X_init 38 = .ok (.iconst 1, 1) := by decide +kernel
theorem d_X_init_39 : decode b_X_init 39 = .ok (.putfield 28, 3) := by decide +kernel
theorem d_X_init_42 : decode b_X_init 42 = .ok (.return_, 1) := by decide +kernel
theorem d_Mod_init_0 : decode b_Mod_init 0 = .ok (.aload_n 0, 1) := by decide +kernel
theorem d_Mod_init_1 : decode b_Mod_init 1 = .ok (.invokespecial 1, 3) := by decide +kernel
theorem d_Mod_init_4 : decode b_Mod_init 4 = .ok (.aload_n 0, 1) := by decide +kernel
theorem d_Mod_init_5 : decode b_Mod_init 5 = .ok (.bipush 92, 2) := by decide +kernel
theorem d_Mod_init_7 : decode b_Mod_init 7 = .ok (.newarray .int, 2) := by decide +kernel
theorem d_Mod_init_9 : decode b_Mod_init 9 = .ok (.putfield 7, 3) := by decide +kernel
theorem d_Mod_init_12 : decode b_Mod_init 12 = .ok (.aload_n 0, 1) := by decide +kernel
theorem d_Mod_init_13 : decode b_Mod_init 13 = .ok (.bipush 92, 2) := by decide +kernel
theorem d_Mod_init_15 : decode b_Mod_init 15 = .ok (.newarray .int, 2) := by decide +kernel
theorem d_Mod_init_17 : decode b_Mod_init 17 = .ok (.putfield 13, 3) := by decide +kernel
theorem d_Mod_init_20 : decode b_Mod_init 20 = .ok (.aload_n 0, 1) := by decide +kernel
theorem d_Mod_init_21 : decode b_Mod_init 21 = .ok (.bipush 23, 2) := by decide +kernel
theorem d_Mod_init_23 : decode b_Mod_init 23 = .ok (.newarray .boolean, 2) := by decide +kernel
theorem d_Mod_init_25 : decode b_Mod_init 25 = .ok (.putfield 16, 3) := by decide +kernel
theorem d_Mod_init_28 : decode b_Mod_init 28 = .ok (.aload_n 0, 1) := by decide +kernel
theorem d_Mod_init_29 : decode b_Mod_init 29 = .ok (.bipush 23, 2) := by decide +kernel
theorem d_Mod_init_31 : decode b_Mod_init 31 = .ok (.newarray .boolean, 2) := by decide +kernel
theorem d_Mod_init_33 : decode b_Mod_init 33 = .ok (.putfield 20, 3) := by decide +kernel
theorem d_Mod_init_36 : decode b_Mod_init 36 = .ok (.aload_n 0, 1) := by decide +kernel
theorem d_Mod_init_37 : decode b_Mod_init 37 = .ok (.bipush 16, 2) := by decide +kernel
theorem d_Mod_init_39 : decode b_Mod_init 39 = .ok (.newarray .int, 2) := by decide +kernel
theorem d_Mod_init_41 : decode b_Mod_init 41 = .ok (.putfield 23, 3) := by decide +kernel
theorem d_Mod_init_44 : decode b_Mod_init 44 = .ok (.aload_n 0, 1) := by decide +kernel
theorem d_Mod_init_45 : decode b_Mod_init 45 = .ok (.sipush 184, 3) := by decide +kernel
theorem d_Mod_init_48 : decode b_Mod_init 48 = .ok (.newarray .boolean, 2) := by decide +kernel
theorem d_Mod_init_50 : decode b_Mod_init 50 = .ok (.putfield 26, 3) := by decide +kernel
theorem d_Mod_init_53 : decode b_Mod_init 53 = .ok (.aload_n 0, 1) := by decide +kernel
theorem d_Mod_init_54 : decode b_Mod_init 54 = .ok (.sipush 184, 3) := by decide +kernel
theorem d_Mod_init_57 : decode b_Mod_init 57 = .ok (.newarray .boolean, 2) := by decide +kernel
theorem d_Mod_init_59 : decode b_Mod_init 59 = .ok (.putfield 29, 3) := by decide +kernel
theorem d_Mod_init_62 : decode b_Mod_init 62 = .ok (.aload_n 0, 1) := by decide +kernel
theorem d_Mod_init_63 : decode b_Mod_init 63 = .ok (.sipush 736, 3) := by decide +kernel
theorem d_Mod_init_66 : decode b_Mod_init 66 = .ok (.newarray .int, 2) := by decide +kernel
theorem d_Mod_init_68 : decode b_Mod_init 68 = .ok (.putfield 32, 3) := by decide +kernel
theorem d_Mod_init_71 : decode b_Mod_init 71 = .ok (.aload_n 0, 1) := by decide +kernel
theorem d_Mod_init_72 : decode b_Mod_init 72 = .ok (.bipush 8, 2) := by decide +kernel
theorem d_Mod_init_74 : decode b_Mod_init 74 = .ok (.newarray .int, 2) := by decide +kernel
theorem d_Mod_init_76 : decode b_Mod_init 76 = .ok (.putfield 35, 3) := by decide +kernel
theorem d_Mod_init_79 : decode b_Mod_init 79 = .ok (.aload_n 0, 1) := by decide +kernel
theorem d_Mod_init_80 : decode b_Mod_init 80 = .ok (.iconst 1, 1) := by decide +kernel
theorem d_Mod_init_81 : decode b_Mod_init 81 = .ok (.putfield 38, 3) := by decide +kernel
theorem d_Mod_init_84 : decode b_Mod_init 84 = .ok (.aload_n 0, 1) := by decide +kernel
theorem d_Mod_init_85 : decode b_Mod_init 85 = .ok (.iconst 1, 1) := by decide +kernel
theorem d_Mod_init_86 : decode b_Mod_init 86 = .ok (.putfield 42, 3) := by decide +kernel
theorem d_Mod_init_89 : decode b_Mod_init 89 = .ok (.aload_n 0, 1) := by decide +kernel
theorem d_Mod_init_90 : decode b_Mod_init 90 = .ok (.iconst (-1), 1) := by decide +kernel
theorem d_Mod_init_91 : decode b_Mod_init 91 = .ok (.putfield 46, 3) := by decide +kernel
theorem d_Mod_init_94 : decode b_Mod_init 94 = .ok (.return_, 1) := by decide +kernel
theorem tj_cblind {D : va_G} {cls : List vw_C} {w0 : va_W} {as : List Value} {sz : Nat} : FrameBlind (va_Pc as (fun U => U.heap.size = sz ∧ va_P D cls w0 U.heap ∧ va_K D cls [] U ∧ va_D (fun _ => True) w0 ∧ ∀ w ∈ tj_N, va_Nw w U)) := by
  intro a U g mk q
  obtain ⟨q0, q1, qP, qK, qD, qN⟩ := q
  refine ⟨q0, q1, qP, va_K.moved (u := U) (U := U.calling g mk a) (Vm.Alike.refl U.vm) qK, qD, fun w hw => ?_⟩
  have h1 := qN w hw
  rcases tj_Ng w hw with ⟨a, i, b, n, d, g, rfl⟩ | ⟨a, i, x, g, rfl⟩
  · exact va_tabs (u := U) rfl rfl h1
  · exact va_tabs (u := U) rfl rfl h1
def at_Power (D : va_G) (A : Nat → Prop) (h0 : Nat) (t : State) : Prop := va_P D tj_cls [(h0, .inr (1, [.int (1), .int (-1), .int (0)]))] t.heap ∧ va_K D tj_cls [] t ∧ va_D A [(h0, .inr (1, [.int (1), .int (-1), .int (0)]))]
set_option maxRecDepth 100000 in
set_option maxHeartbeats 4000000 in
theorem c_Power_init (l : Launch) (D : va_G) (h0 sz : Nat) : Met l y_Power_init (Cond.code y_Power_init b_Power_init 1 none :: tj_T) { frames := 1, cells := 0, slots := 0, locals := 12 } (va_Pc [.ref h0] (fun U => U.heap.size = sz ∧ va_P D tj_cls [(h0, .inr (1, [.int 0, .int 0, .int 0]))] U.heap ∧ va_K D tj_cls [] U ∧ va_D (fun _ => True) [(h0, .inr (1, [.int 0, .int 0, .int 0]))] ∧ ∀ w ∈ tj_N, va_Nw w U)) (va_Qv (fun _ : Unit => True) (fun _ t => at_Power D (va_A [(h0, .inr (1, [.int 0, .int 0, .int 0]))] sz) h0 t) (va_A [(h0, .inr (1, [.int 0, .int 0, .int 0]))] sz)) 0 0 (va_A [(h0, .inr (1, [.int 0, .int 0, .int 0]))] sz) := by
  refine Met.ofW (cc := b_Power_init) (maxL := 1) (ret := none) (by decide) rfl ?_
  intro p e s m args below meth c s₁ B hml hv
  obtain ⟨rfl, hsz, hP, hK, hD0, hN⟩ := hv
  have hx := B.exec
  have hb := B.bytes
  have hr := B.returns
  have hts0 := atoms_spec (ws := Cond.code y_Power_init b_Power_init 1 none :: tj_T) B.pre
  have hts : ∀ w ∈ tj_T, w.before ([Value.ref h0] : List Value).toArray s = true := fun w hw => hts0 w (List.mem_cons_of_mem _ hw)
  have hown : s.vm.findClass "ThreeModeJournal$Power" = some m.cls := findClass_of_methodNamed B.named
  have hlocks := B.notSynchronized
  have hin : meth.name = "<init>" := (name_of_methodNamed B.named B.method).1
  subst hsz
  have hD := hD0.self (sz := s.heap.size)
  generalize hAe : va_A [(h0, .inr (1, [.int 0, .int 0, .int 0]))] s.heap.size = A at hD ⊢
  have hA : ∀ q : Nat, s.heap.size ≤ q → A q := fun q h => by rw [← hAe]; exact Or.inr h
  have hS : va_S A s.heap s.heap [] := va_S.rf
  have hP : va_P D tj_cls [(h0, .inr (1, [.int 0, .int 0, .int 0]))] s.heap := hP
  have hl := lv_entry ([.ref h0]) (n := 1) (Nat.le_of_ble_eq_true rfl)
  rw [lg_entry_eq]
  generalize (lg_sl ([.ref h0]) ++ List.replicate (1 - (lg_sl ([.ref h0])).length) Slot.unset).toArray = ls at hl ⊢
  have hl : lv_has ls 1 [(0, .ref h0)] := hl
  refine lv_aload_n hx hb d_Power_init_0 rfl (lv_at hl 0 rfl) ?_
  refine W.objInit hx hb hown (hts _ T_29) (hts _ T_16) (hts _ T_17) rfl (by rw [hml]; exact hl.1) rfl d_Power_init_1 (Nat.le_of_ble_eq_true rfl) (Nat.le_of_ble_eq_true rfl) ?_
  refine W.eq (g2 := F0 m 4 ls []) rfl ?_
  refine lv_aload_n hx hb d_Power_init_4 rfl (lv_at hl 0 rfl) ?_
  refine lv_iconst (v := 1) hx hb d_Power_init_5 (by decide) ?_
  refine va_put (T := F_Power) (N := 3) (C := "ThreeModeJournal$Power") hx hb hts F_Power_ok.1 ty_Power F_Power_ok.2.1 F_Power_ok.2.2 hown hK hP hD hS 0 rfl rfl 0 (by decide) (hts _ T_30) (fun _ h9 => h9) rfl (F_Power_ok.2.1 0 (by decide)) rfl rfl (Nat.le_of_ble_eq_true rfl) d_Power_init_6 (fun H locs hP hD hS => ?_)
  have hP : va_P D tj_cls [(h0, .inr (1, [.int (1), .int 0, .int 0]))] H := hP
  have hD : va_D A [(h0, .inr (1, [.int (1), .int 0, .int 0]))] := hD
  refine lv_aload_n hx hb d_Power_init_9 rfl (lv_at hl 0 rfl) ?_
  refine lv_iconst (v := -1) hx hb d_Power_init_10 (by decide) ?_
  refine va_put (T := F_Power) (N := 3) (C := "ThreeModeJournal$Power") hx hb hts F_Power_ok.1 ty_Power F_Power_ok.2.1 F_Power_ok.2.2 hown hK hP hD hS 0 rfl rfl 1 (by decide) (hts _ T_32) (fun _ h9 => h9) rfl (F_Power_ok.2.1 1 (by decide)) rfl rfl (Nat.le_of_ble_eq_true rfl) d_Power_init_11 (fun H locs hP hD hS => ?_)
  have hP : va_P D tj_cls [(h0, .inr (1, [.int (1), .int (-1), .int 0]))] H := hP
  have hD : va_D A [(h0, .inr (1, [.int (1), .int (-1), .int 0]))] := hD
  refine lv_aload_n hx hb d_Power_init_14 rfl (lv_at hl 0 rfl) ?_
  refine lv_iconst (v := 0) hx hb d_Power_init_15 (by decide) ?_
  refine va_put (T := F_Power) (N := 3) (C := "ThreeModeJournal$Power") hx hb hts F_Power_ok.1 ty_Power F_Power_ok.2.1 F_Power_ok.2.2 hown hK hP hD hS 0 rfl rfl 2 (by decide) (hts _ T_34) (fun _ h9 => h9) rfl (F_Power_ok.2.1 2 (by decide)) rfl rfl (Nat.le_of_ble_eq_true rfl) d_Power_init_16 (fun H locs hP hD hS => ?_)
  have hP : va_P D tj_cls [(h0, .inr (1, [.int (1), .int (-1), .int (0)]))] H := hP
  have hD : va_D A [(h0, .inr (1, [.int (1), .int (-1), .int (0)]))] := hD
  exact W.vret hx hb hr (fun t ht hW => ⟨⟨(), rfl, trivial, by rw [ht]; exact hP, va_K.moved hW.alike hK, hD⟩, hS.F ht⟩) hS.2.2 d_Power_init_19
def at_Log (D : va_G) (A : Nat → Prop) (h0 : Nat) (t : State) : Prop := ∃ (q7 q15 q23 q31 q39 : Nat) (c7 c15 c23 c31 c39 : ClassId), va_P D tj_cls [(h0, .inr (3, [.ref q7, .ref q15, .ref q23, .ref q31, .ref q39, .int (0), .int (0), .int (0)])), (q7, .inl (c7, 96, .inl (fun _ => (0 : Int32)))), (q15, .inl (c15, 8, .inl (fun _ => (0 : Int32)))), (q23, .inl (c23, 8, .inl (fun _ => (0 : Int32)))), (q31, .inl (c31, 8, .inl (fun _ => (0 : Int32)))), (q39, .inl (c39, 8, .inl (fun _ => (0 : Int32))))] t.heap ∧ va_K D tj_cls [(c7, .int), (c15, .int), (c23, .int), (c31, .int), (c39, .int)] t ∧ va_D A [(h0, .inr (3, [.ref q7, .ref q15, .ref q23, .ref q31, .ref q39, .int (0), .int (0), .int (0)])), (q7, .inl (c7, 96, .inl (fun _ => (0 : Int32)))), (q15, .inl (c15, 8, .inl (fun _ => (0 : Int32)))), (q23, .inl (c23, 8, .inl (fun _ => (0 : Int32)))), (q31, .inl (c31, 8, .inl (fun _ => (0 : Int32)))), (q39, .inl (c39, 8, .inl (fun _ => (0 : Int32))))]
set_option maxRecDepth 100000 in
set_option maxHeartbeats 4000000 in
theorem c_Log_init (l : Launch) (D : va_G) (h0 sz : Nat) : Met l y_Log_init (Cond.code y_Log_init b_Log_init 1 none :: tj_T) { frames := 1, cells := 5, slots := 128, locals := 12 } (va_Pc [.ref h0] (fun U => U.heap.size = sz ∧ va_P D tj_cls [(h0, .inr (3, [.null, .null, .null, .null, .null, .int 0, .int 0, .int 0]))] U.heap ∧ va_K D tj_cls [] U ∧ va_D (fun _ => True) [(h0, .inr (3, [.null, .null, .null, .null, .null, .int 0, .int 0, .int 0]))] ∧ ∀ w ∈ tj_N, va_Nw w U)) (va_Qv (fun _ : Unit => True) (fun _ t => at_Log D (va_A [(h0, .inr (3, [.null, .null, .null, .null, .null, .int 0, .int 0, .int 0]))] sz) h0 t) (va_A [(h0, .inr (3, [.null, .null, .null, .null, .null, .int 0, .int 0, .int 0]))] sz)) 5 128 (va_A [(h0, .inr (3, [.null, .null, .null, .null, .null, .int 0, .int 0, .int 0]))] sz) := by
  refine Met.ofW (cc := b_Log_init) (maxL := 1) (ret := none) (by decide) rfl ?_
  intro p e s m args below meth c s₁ B hml hv
  obtain ⟨rfl, hsz, hP, hK, hD0, hN⟩ := hv
  have hx := B.exec
  have hb := B.bytes
  have hr := B.returns
  have hts0 := atoms_spec (ws := Cond.code y_Log_init b_Log_init 1 none :: tj_T) B.pre
  have hts : ∀ w ∈ tj_T, w.before ([Value.ref h0] : List Value).toArray s = true := fun w hw => hts0 w (List.mem_cons_of_mem _ hw)
  have hown : s.vm.findClass "ThreeModeJournal$Log" = some m.cls := findClass_of_methodNamed B.named
  have hlocks := B.notSynchronized
  have hin : meth.name = "<init>" := (name_of_methodNamed B.named B.method).1
  subst hsz
  have hD := hD0.self (sz := s.heap.size)
  generalize hAe : va_A [(h0, .inr (3, [.null, .null, .null, .null, .null, .int 0, .int 0, .int 0]))] s.heap.size = A at hD ⊢
  have hA : ∀ q : Nat, s.heap.size ≤ q → A q := fun q h => by rw [← hAe]; exact Or.inr h
  have hS : va_S A s.heap s.heap [] := va_S.rf
  have hP : va_P D tj_cls [(h0, .inr (3, [.null, .null, .null, .null, .null, .int 0, .int 0, .int 0]))] s.heap := hP
  have hl := lv_entry ([.ref h0]) (n := 1) (Nat.le_of_ble_eq_true rfl)
  rw [lg_entry_eq]
  generalize (lg_sl ([.ref h0]) ++ List.replicate (1 - (lg_sl ([.ref h0])).length) Slot.unset).toArray = ls at hl ⊢
  have hl : lv_has ls 1 [(0, .ref h0)] := hl
  refine lv_aload_n hx hb d_Log_init_0 rfl (lv_at hl 0 rfl) ?_
  refine W.objInit hx hb hown (hts _ T_48) (hts _ T_16) (hts _ T_17) rfl (by rw [hml]; exact hl.1) rfl d_Log_init_1 (Nat.le_of_ble_eq_true rfl) (Nat.le_of_ble_eq_true rfl) ?_
  refine W.eq (g2 := F0 m 4 ls []) rfl ?_
  refine lv_aload_n hx hb d_Log_init_4 rfl (lv_at hl 0 rfl) ?_
  refine lv_bipush (v := 96) hx hb d_Log_init_5 (by decide) ?_
  refine va_newa (atype := .int) (ty := .int) (N' := 96) (a0 := (96, .inl (fun _ => (0 : Int32)))) hx hb (hts _ T_78) rfl hK hP hD hS hA (fun _ => rfl) (by decide) (by decide) (by decide) (Nat.le_of_ble_eq_true rfl) (Nat.le_of_ble_eq_true rfl) d_Log_init_7 (fun q7 c7 H hK hP hD hS => ?_)
  have hP : va_P D tj_cls [(h0, .inr (3, [.null, .null, .null, .null, .null, .int 0, .int 0, .int 0])), (q7, .inl (c7, 96, .inl (fun _ => (0 : Int32))))] H := hP
  have hD : va_D A [(h0, .inr (3, [.null, .null, .null, .null, .null, .int 0, .int 0, .int 0])), (q7, .inl (c7, 96, .inl (fun _ => (0 : Int32))))] := hD
  have hK : va_K D tj_cls [(c7, .int)] s := hK
  refine W.widen (k := 1) (n := 96) (Nat.le_refl _) (Nat.le_refl _) ?_
  refine va_putF (T := F_Log) (N := 8) (C := "ThreeModeJournal$Log") hx hb hts F_Log_ok.1 ty_Log F_Log_ok.2.1 F_Log_ok.2.2 hown hK hP hD hS 0 rfl rfl 0 (by decide) (hts _ T_49) (fun _ h9 => h9) rfl hin rfl (F_Log_ok.2.1 0 (by decide)) rfl rfl (Nat.le_of_ble_eq_true rfl) d_Log_init_9 (fun H locs hP hD hS => ?_)
  have hP : va_P D tj_cls [(h0, .inr (3, [.ref q7, .null, .null, .null, .null, .int 0, .int 0, .int 0])), (q7, .inl (c7, 96, .inl (fun _ => (0 : Int32))))] H := hP
  have hD : va_D A [(h0, .inr (3, [.ref q7, .null, .null, .null, .null, .int 0, .int 0, .int 0])), (q7, .inl (c7, 96, .inl (fun _ => (0 : Int32))))] := hD
  refine lv_aload_n hx hb d_Log_init_12 rfl (lv_at hl 0 rfl) ?_
  refine lv_bipush (v := 8) hx hb d_Log_init_13 (by decide) ?_
  refine va_newa (atype := .int) (ty := .int) (N' := 8) (a0 := (8, .inl (fun _ => (0 : Int32)))) hx hb (hts _ T_78) rfl hK hP hD hS hA (fun _ => rfl) (by decide) (by decide) (by decide) (Nat.le_of_ble_eq_true rfl) (Nat.le_of_ble_eq_true rfl) d_Log_init_15 (fun q15 c15 H hK hP hD hS => ?_)
  have hP : va_P D tj_cls [(h0, .inr (3, [.ref q7, .null, .null, .null, .null, .int 0, .int 0, .int 0])), (q7, .inl (c7, 96, .inl (fun _ => (0 : Int32)))), (q15, .inl (c15, 8, .inl (fun _ => (0 : Int32))))] H := hP
  have hD : va_D A [(h0, .inr (3, [.ref q7, .null, .null, .null, .null, .int 0, .int 0, .int 0])), (q7, .inl (c7, 96, .inl (fun _ => (0 : Int32)))), (q15, .inl (c15, 8, .inl (fun _ => (0 : Int32))))] := hD
  have hK : va_K D tj_cls [(c7, .int), (c15, .int)] s := hK
  refine W.widen (k := 2) (n := 104) (Nat.le_refl _) (Nat.le_refl _) ?_
  refine va_putF (T := F_Log) (N := 8) (C := "ThreeModeJournal$Log") hx hb hts F_Log_ok.1 ty_Log F_Log_ok.2.1 F_Log_ok.2.2 hown hK hP hD hS 0 rfl rfl 1 (by decide) (hts _ T_51) (fun _ h9 => h9) rfl hin rfl (F_Log_ok.2.1 1 (by decide)) rfl rfl (Nat.le_of_ble_eq_true rfl) d_Log_init_17 (fun H locs hP hD hS => ?_)
  have hP : va_P D tj_cls [(h0, .inr (3, [.ref q7, .ref q15, .null, .null, .null, .int 0, .int 0, .int 0])), (q7, .inl (c7, 96, .inl (fun _ => (0 : Int32)))), (q15, .inl (c15, 8, .inl (fun _ => (0 : Int32))))] H := hP
  have hD : va_D A [(h0, .inr (3, [.ref q7, .ref q15, .null, .null, .null, .int 0, .int 0, .int 0])), (q7, .inl (c7, 96, .inl (fun _ => (0 : Int32)))), (q15, .inl (c15, 8, .inl (fun _ => (0 : Int32))))] := hD
  refine lv_aload_n hx hb d_Log_init_20 rfl (lv_at hl 0 rfl) ?_
  refine lv_bipush (v := 8) hx hb d_Log_init_21 (by decide) ?_
  refine va_newa (atype := .int) (ty := .int) (N' := 8) (a0 := (8, .inl (fun _ => (0 : Int32)))) hx hb (hts _ T_78) rfl hK hP hD hS hA (fun _ => rfl) (by decide) (by decide) (by decide) (Nat.le_of_ble_eq_true rfl) (Nat.le_of_ble_eq_true rfl) d_Log_init_23 (fun q23 c23 H hK hP hD hS => ?_)
  have hP : va_P D tj_cls [(h0, .inr (3, [.ref q7, .ref q15, .null, .null, .null, .int 0, .int 0, .int 0])), (q7, .inl (c7, 96, .inl (fun _ => (0 : Int32)))), (q15, .inl (c15, 8, .inl (fun _ => (0 : Int32)))), (q23, .inl (c23, 8, .inl (fun _ => (0 : Int32))))] H := hP
  have hD : va_D A [(h0, .inr (3, [.ref q7, .ref q15, .null, .null, .null, .int 0, .int 0, .int 0])), (q7, .inl (c7, 96, .inl (fun _ => (0 : Int32)))), (q15, .inl (c15, 8, .inl (fun _ => (0 : Int32)))), (q23, .inl (c23, 8, .inl (fun _ => (0 : Int32))))] := hD
  have hK : va_K D tj_cls [(c7, .int), (c15, .int), (c23, .int)] s := hK
  refine W.widen (k := 3) (n := 112) (Nat.le_refl _) (Nat.le_refl _) ?_
  refine va_putF (T := F_Log) (N := 8) (C := "ThreeModeJournal$Log") hx hb hts F_Log_ok.1 ty_Log F_Log_ok.2.1 F_Log_ok.2.2 hown hK hP hD hS 0 rfl rfl 2 (by decide) (hts _ T_52) (fun _ h9 => h9) rfl hin rfl (F_Log_ok.2.1 2 (by decide)) rfl rfl (Nat.le_of_ble_eq_true rfl) d_Log_init_25 (fun H locs hP hD hS => ?_)
  have hP : va_P D tj_cls [(h0, .inr (3, [.ref q7, .ref q15, .ref q23, .null, .null, .int 0, .int 0, .int 0])), (q7, .inl (c7, 96, .inl (fun _ => (0 : Int32)))), (q15, .inl (c15, 8, .inl (fun _ => (0 : Int32)))), (q23, .inl (c23, 8, .inl (fun _ => (0 : Int32))))] H := hP
  have hD : va_D A [(h0, .inr (3, [.ref q7, .ref q15, .ref q23, .null, .null, .int 0, .int 0, .int 0])), (q7, .inl (c7, 96, .inl (fun _ => (0 : Int32)))), (q15, .inl (c15, 8, .inl (fun _ => (0 : Int32)))), (q23, .inl (c23, 8, .inl (fun _ => (0 : Int32))))] := hD
  refine lv_aload_n hx hb d_Log_init_28 rfl (lv_at hl 0 rfl) ?_
  refine lv_bipush (v := 8) hx hb d_Log_init_29 (by decide) ?_
  refine va_newa (atype := .int) (ty := .int) (N' := 8) (a0 := (8, .inl (fun _ => (0 : Int32)))) hx hb (hts _ T_78) rfl hK hP hD hS hA (fun _ => rfl) (by decide) (by decide) (by decide) (Nat.le_of_ble_eq_true rfl) (Nat.le_of_ble_eq_true rfl) d_Log_init_31 (fun q31 c31 H hK hP hD hS => ?_)
  have hP : va_P D tj_cls [(h0, .inr (3, [.ref q7, .ref q15, .ref q23, .null, .null, .int 0, .int 0, .int 0])), (q7, .inl (c7, 96, .inl (fun _ => (0 : Int32)))), (q15, .inl (c15, 8, .inl (fun _ => (0 : Int32)))), (q23, .inl (c23, 8, .inl (fun _ => (0 : Int32)))), (q31, .inl (c31, 8, .inl (fun _ => (0 : Int32))))] H := hP
  have hD : va_D A [(h0, .inr (3, [.ref q7, .ref q15, .ref q23, .null, .null, .int 0, .int 0, .int 0])), (q7, .inl (c7, 96, .inl (fun _ => (0 : Int32)))), (q15, .inl (c15, 8, .inl (fun _ => (0 : Int32)))), (q23, .inl (c23, 8, .inl (fun _ => (0 : Int32)))), (q31, .inl (c31, 8, .inl (fun _ => (0 : Int32))))] := hD
  have hK : va_K D tj_cls [(c7, .int), (c15, .int), (c23, .int), (c31, .int)] s := hK
  refine W.widen (k := 4) (n := 120) (Nat.le_refl _) (Nat.le_refl _) ?_
  refine va_putF (T := F_Log) (N := 8) (C := "ThreeModeJournal$Log") hx hb hts F_Log_ok.1 ty_Log F_Log_ok.2.1 F_Log_ok.2.2 hown hK hP hD hS 0 rfl rfl 3 (by decide) (hts _ T_53) (fun _ h9 => h9) rfl hin rfl (F_Log_ok.2.1 3 (by decide)) rfl rfl (Nat.le_of_ble_eq_true rfl) d_Log_init_33 (fun H locs hP hD hS => ?_)
  have hP : va_P D tj_cls [(h0, .inr (3, [.ref q7, .ref q15, .ref q23, .ref q31, .null, .int 0, .int 0, .int 0])), (q7, .inl (c7, 96, .inl (fun _ => (0 : Int32)))), (q15, .inl (c15, 8, .inl (fun _ => (0 : Int32)))), (q23, .inl (c23, 8, .inl (fun _ => (0 : Int32)))), (q31, .inl (c31, 8, .inl (fun _ => (0 : Int32))))] H := hP
  have hD : va_D A [(h0, .inr (3, [.ref q7, .ref q15, .ref q23, .ref q31, .null, .int 0, .int 0, .int 0])), (q7, .inl (c7, 96, .inl (fun _ => (0 : Int32)))), (q15, .inl (c15, 8, .inl (fun _ => (0 : Int32)))), (q23, .inl (c23, 8, .inl (fun _ => (0 : Int32)))), (q31, .inl (c31, 8, .inl (fun _ => (0 : Int32))))] := hD
  refine lv_aload_n hx hb d_Log_init_36 rfl (lv_at hl 0 rfl) ?_
  refine lv_bipush (v := 8) hx hb d_Log_init_37 (by decide) ?_
  refine va_newa (atype := .int) (ty := .int) (N' := 8) (a0 := (8, .inl (fun _ => (0 : Int32)))) hx hb (hts _ T_78) rfl hK hP hD hS hA (fun _ => rfl) (by decide) (by decide) (by decide) (Nat.le_of_ble_eq_true rfl) (Nat.le_of_ble_eq_true rfl) d_Log_init_39 (fun q39 c39 H hK hP hD hS => ?_)
  have hP : va_P D tj_cls [(h0, .inr (3, [.ref q7, .ref q15, .ref q23, .ref q31, .null, .int 0, .int 0, .int 0])), (q7, .inl (c7, 96, .inl (fun _ => (0 : Int32)))), (q15, .inl (c15, 8, .inl (fun _ => (0 : Int32)))), (q23, .inl (c23, 8, .inl (fun _ => (0 : Int32)))), (q31, .inl (c31, 8, .inl (fun _ => (0 : Int32)))), (q39, .inl (c39, 8, .inl (fun _ => (0 : Int32))))] H := hP
  have hD : va_D A [(h0, .inr (3, [.ref q7, .ref q15, .ref q23, .ref q31, .null, .int 0, .int 0, .int 0])), (q7, .inl (c7, 96, .inl (fun _ => (0 : Int32)))), (q15, .inl (c15, 8, .inl (fun _ => (0 : Int32)))), (q23, .inl (c23, 8, .inl (fun _ => (0 : Int32)))), (q31, .inl (c31, 8, .inl (fun _ => (0 : Int32)))), (q39, .inl (c39, 8, .inl (fun _ => (0 : Int32))))] := hD
  have hK : va_K D tj_cls [(c7, .int), (c15, .int), (c23, .int), (c31, .int), (c39, .int)] s := hK
  refine W.widen (k := 5) (n := 128) (Nat.le_refl _) (Nat.le_refl _) ?_
  refine va_putF (T := F_Log) (N := 8) (C := "ThreeModeJournal$Log") hx hb hts F_Log_ok.1 ty_Log F_Log_ok.2.1 F_Log_ok.2.2 hown hK hP hD hS 0 rfl rfl 4 (by decide) (hts _ T_54) (fun _ h9 => h9) rfl hin rfl (F_Log_ok.2.1 4 (by decide)) rfl rfl (Nat.le_of_ble_eq_true rfl) d_Log_init_41 (fun H locs hP hD hS => ?_)
  have hP : va_P D tj_cls [(h0, .inr (3, [.ref q7, .ref q15, .ref q23, .ref q31, .ref q39, .int 0, .int 0, .int 0])), (q7, .inl (c7, 96, .inl (fun _ => (0 : Int32)))), (q15, .inl (c15, 8, .inl (fun _ => (0 : Int32)))), (q23, .inl (c23, 8, .inl (fun _ => (0 : Int32)))), (q31, .inl (c31, 8, .inl (fun _ => (0 : Int32)))), (q39, .inl (c39, 8, .inl (fun _ => (0 : Int32))))] H := hP
  have hD : va_D A [(h0, .inr (3, [.ref q7, .ref q15, .ref q23, .ref q31, .ref q39, .int 0, .int 0, .int 0])), (q7, .inl (c7, 96, .inl (fun _ => (0 : Int32)))), (q15, .inl (c15, 8, .inl (fun _ => (0 : Int32)))), (q23, .inl (c23, 8, .inl (fun _ => (0 : Int32)))), (q31, .inl (c31, 8, .inl (fun _ => (0 : Int32)))), (q39, .inl (c39, 8, .inl (fun _ => (0 : Int32))))] := hD
  refine lv_aload_n hx hb d_Log_init_44 rfl (lv_at hl 0 rfl) ?_
  refine lv_iconst (v := 0) hx hb d_Log_init_45 (by decide) ?_
  refine va_put (T := F_Log) (N := 8) (C := "ThreeModeJournal$Log") hx hb hts F_Log_ok.1 ty_Log F_Log_ok.2.1 F_Log_ok.2.2 hown hK hP hD hS 0 rfl rfl 5 (by decide) (hts _ T_55) (fun _ h9 => h9) rfl (F_Log_ok.2.1 5 (by decide)) rfl rfl (Nat.le_of_ble_eq_true rfl) d_Log_init_46 (fun H locs hP hD hS => ?_)
  have hP : va_P D tj_cls [(h0, .inr (3, [.ref q7, .ref q15, .ref q23, .ref q31, .ref q39, .int (0), .int 0, .int 0])), (q7, .inl (c7, 96, .inl (fun _ => (0 : Int32)))), (q15, .inl (c15, 8, .inl (fun _ => (0 : Int32)))), (q23, .inl (c23, 8, .inl (fun _ => (0 : Int32)))), (q31, .inl (c31, 8, .inl (fun _ => (0 : Int32)))), (q39, .inl (c39, 8, .inl (fun _ => (0 : Int32))))] H := hP
  have hD : va_D A [(h0, .inr (3, [.ref q7, .ref q15, .ref q23, .ref q31, .ref q39, .int (0), .int 0, .int 0])), (q7, .inl (c7, 96, .inl (fun _ => (0 : Int32)))), (q15, .inl (c15, 8, .inl (fun _ => (0 : Int32)))), (q23, .inl (c23, 8, .inl (fun _ => (0 : Int32)))), (q31, .inl (c31, 8, .inl (fun _ => (0 : Int32)))), (q39, .inl (c39, 8, .inl (fun _ => (0 : Int32))))] := hD
  refine lv_aload_n hx hb d_Log_init_49 rfl (lv_at hl 0 rfl) ?_
  refine lv_iconst (v := 0) hx hb d_Log_init_50 (by decide) ?_
  refine va_put (T := F_Log) (N := 8) (C := "ThreeModeJournal$Log") hx hb hts F_Log_ok.1 ty_Log F_Log_ok.2.1 F_Log_ok.2.2 hown hK hP hD hS 0 rfl rfl 6 (by decide) (hts _ T_56) (fun _ h9 => h9) rfl (F_Log_ok.2.1 6 (by decide)) rfl rfl (Nat.le_of_ble_eq_true rfl) d_Log_init_51 (fun H locs hP hD hS => ?_)
  have hP : va_P D tj_cls [(h0, .inr (3, [.ref q7, .ref q15, .ref q23, .ref q31, .ref q39, .int (0), .int (0), .int 0])), (q7, .inl (c7, 96, .inl (fun _ => (0 : Int32)))), (q15, .inl (c15, 8, .inl (fun _ => (0 : Int32)))), (q23, .inl (c23, 8, .inl (fun _ => (0 : Int32)))), (q31, .inl (c31, 8, .inl (fun _ => (0 : Int32)))), (q39, .inl (c39, 8, .inl (fun _ => (0 : Int32))))] H := hP
  have hD : va_D A [(h0, .inr (3, [.ref q7, .ref q15, .ref q23, .ref q31, .ref q39, .int (0), .int (0), .int 0])), (q7, .inl (c7, 96, .inl (fun _ => (0 : Int32)))), (q15, .inl (c15, 8, .inl (fun _ => (0 : Int32)))), (q23, .inl (c23, 8, .inl (fun _ => (0 : Int32)))), (q31, .inl (c31, 8, .inl (fun _ => (0 : Int32)))), (q39, .inl (c39, 8, .inl (fun _ => (0 : Int32))))] := hD
  refine lv_aload_n hx hb d_Log_init_54 rfl (lv_at hl 0 rfl) ?_
  refine lv_iconst (v := 0) hx hb d_Log_init_55 (by decide) ?_
  refine va_put (T := F_Log) (N := 8) (C := "ThreeModeJournal$Log") hx hb hts F_Log_ok.1 ty_Log F_Log_ok.2.1 F_Log_ok.2.2 hown hK hP hD hS 0 rfl rfl 7 (by decide) (hts _ T_59) (fun _ h9 => h9) rfl (F_Log_ok.2.1 7 (by decide)) rfl rfl (Nat.le_of_ble_eq_true rfl) d_Log_init_56 (fun H locs hP hD hS => ?_)
  have hP : va_P D tj_cls [(h0, .inr (3, [.ref q7, .ref q15, .ref q23, .ref q31, .ref q39, .int (0), .int (0), .int (0)])), (q7, .inl (c7, 96, .inl (fun _ => (0 : Int32)))), (q15, .inl (c15, 8, .inl (fun _ => (0 : Int32)))), (q23, .inl (c23, 8, .inl (fun _ => (0 : Int32)))), (q31, .inl (c31, 8, .inl (fun _ => (0 : Int32)))), (q39, .inl (c39, 8, .inl (fun _ => (0 : Int32))))] H := hP
  have hD : va_D A [(h0, .inr (3, [.ref q7, .ref q15, .ref q23, .ref q31, .ref q39, .int (0), .int (0), .int (0)])), (q7, .inl (c7, 96, .inl (fun _ => (0 : Int32)))), (q15, .inl (c15, 8, .inl (fun _ => (0 : Int32)))), (q23, .inl (c23, 8, .inl (fun _ => (0 : Int32)))), (q31, .inl (c31, 8, .inl (fun _ => (0 : Int32)))), (q39, .inl (c39, 8, .inl (fun _ => (0 : Int32))))] := hD
  exact W.vret hx hb hr (fun t ht hW => ⟨⟨(), rfl, trivial, q7, q15, q23, q31, q39, c7, c15, c23, c31, c39, by rw [ht]; exact hP, va_K.moved hW.alike hK, hD⟩, hS.F ht⟩) hS.2.2 d_Log_init_59
def at_Disk (D : va_G) (A : Nat → Prop) (h0 : Nat) (t : State) : Prop := ∃ (q5 q18 q24 q7_28 q15_28 q23_28 q31_28 q39_28 : Nat) (c18 c7_28 c15_28 c23_28 c31_28 c39_28 : ClassId), va_P D tj_cls [(h0, .inr (2, [.ref q5, .ref q18, .ref q24])), (q5, .inr (1, [.int (1), .int (-1), .int (0)])), (q18, .inl (c18, 92, .inl (fun _ => (0 : Int32)))), (q24, .inr (3, [.ref q7_28, .ref q15_28, .ref q23_28, .ref q31_28, .ref q39_28, .int (0), .int (0), .int (0)])), (q7_28, .inl (c7_28, 96, .inl (fun _ => (0 : Int32)))), (q15_28, .inl (c15_28, 8, .inl (fun _ => (0 : Int32)))), (q23_28, .inl (c23_28, 8, .inl (fun _ => (0 : Int32)))), (q31_28, .inl (c31_28, 8, .inl (fun _ => (0 : Int32)))), (q39_28, .inl (c39_28, 8, .inl (fun _ => (0 : Int32))))] t.heap ∧ va_K D tj_cls [(c18, .int), (c7_28, .int), (c15_28, .int), (c23_28, .int), (c31_28, .int), (c39_28, .int)] t ∧ va_D A [(h0, .inr (2, [.ref q5, .ref q18, .ref q24])), (q5, .inr (1, [.int (1), .int (-1), .int (0)])), (q18, .inl (c18, 92, .inl (fun _ => (0 : Int32)))), (q24, .inr (3, [.ref q7_28, .ref q15_28, .ref q23_28, .ref q31_28, .ref q39_28, .int (0), .int (0), .int (0)])), (q7_28, .inl (c7_28, 96, .inl (fun _ => (0 : Int32)))), (q15_28, .inl (c15_28, 8, .inl (fun _ => (0 : Int32)))), (q23_28, .inl (c23_28, 8, .inl (fun _ => (0 : Int32)))), (q31_28, .inl (c31_28, 8, .inl (fun _ => (0 : Int32)))), (q39_28, .inl (c39_28, 8, .inl (fun _ => (0 : Int32))))]
set_option maxRecDepth 100000 in
set_option maxHeartbeats 4000000 in
theorem c_Disk_init (l : Launch) (D : va_G) (h0 sz : Nat) : Met l y_Disk_init (Cond.code y_Disk_init b_Disk_init 1 none :: tj_T) { frames := 2, cells := 8, slots := 231, locals := 32 } (va_Pc [.ref h0] (fun U => U.heap.size = sz ∧ va_P D tj_cls [(h0, .inr (2, [.null, .null, .null]))] U.heap ∧ va_K D tj_cls [] U ∧ va_D (fun _ => True) [(h0, .inr (2, [.null, .null, .null]))] ∧ ∀ w ∈ tj_N, va_Nw w U)) (va_Qv (fun _ : Unit => True) (fun _ t => at_Disk D (va_A [(h0, .inr (2, [.null, .null, .null]))] sz) h0 t) (va_A [(h0, .inr (2, [.null, .null, .null]))] sz)) 8 231 (va_A [(h0, .inr (2, [.null, .null, .null]))] sz) := by
  refine Met.ofW (cc := b_Disk_init) (maxL := 1) (ret := none) (by decide) rfl ?_
  intro p e s m args below meth c s₁ B hml hv
  obtain ⟨rfl, hsz, hP, hK, hD0, hN⟩ := hv
  have hx := B.exec
  have hb := B.bytes
  have hr := B.returns
  have hts0 := atoms_spec (ws := Cond.code y_Disk_init b_Disk_init 1 none :: tj_T) B.pre
  have hts : ∀ w ∈ tj_T, w.before ([Value.ref h0] : List Value).toArray s = true := fun w hw => hts0 w (List.mem_cons_of_mem _ hw)
  have hown : s.vm.findClass "ThreeModeJournal$Disk" = some m.cls := findClass_of_methodNamed B.named
  have hlocks := B.notSynchronized
  have hin : meth.name = "<init>" := (name_of_methodNamed B.named B.method).1
  subst hsz
  have hD := hD0.self (sz := s.heap.size)
  generalize hAe : va_A [(h0, .inr (2, [.null, .null, .null]))] s.heap.size = A at hD ⊢
  have hA : ∀ q : Nat, s.heap.size ≤ q → A q := fun q h => by rw [← hAe]; exact Or.inr h
  have hS : va_S A s.heap s.heap [] := va_S.rf
  have hP : va_P D tj_cls [(h0, .inr (2, [.null, .null, .null]))] s.heap := hP
  have hl := lv_entry ([.ref h0]) (n := 1) (Nat.le_of_ble_eq_true rfl)
  rw [lg_entry_eq]
  generalize (lg_sl ([.ref h0]) ++ List.replicate (1 - (lg_sl ([.ref h0])).length) Slot.unset).toArray = ls at hl ⊢
  have hl : lv_has ls 1 [(0, .ref h0)] := hl
  refine lv_aload_n hx hb d_Disk_init_0 rfl (lv_at hl 0 rfl) ?_
  refine W.objInit hx hb hown (hts _ T_23) (hts _ T_16) (hts _ T_17) rfl (by rw [hml]; exact hl.1) rfl d_Disk_init_1 (Nat.le_of_ble_eq_true rfl) (Nat.le_of_ble_eq_true rfl) ?_
  refine W.eq (g2 := F0 m 4 ls []) rfl ?_
  refine lv_aload_n hx hb d_Disk_init_4 rfl (lv_at hl 0 rfl) ?_
  refine va_new (ci := 1) (fs := [.int 0, .int 0, .int 0]) (C := "ThreeModeJournal$Power") (T := F_Power) (N := 3) hx hb hts F_Power_ok.1 ty_Power F_Power_ok.2.1 hown (hts _ T_24) (hts _ T_25) (hts _ T_3) hK hP hD hS hA rfl (by decide +kernel) (Nat.le_of_ble_eq_true rfl) (Nat.le_of_ble_eq_true rfl) d_Disk_init_5 (fun q5 H hP hD hS => ?_)
  have hP : va_P D tj_cls [(h0, .inr (2, [.null, .null, .null])), (q5, .inr (1, [.int 0, .int 0, .int 0]))] H := hP
  have hD : va_D A [(h0, .inr (2, [.null, .null, .null])), (q5, .inr (1, [.int 0, .int 0, .int 0]))] := hD
  refine W.widen (k := 1) (n := 3) (Nat.le_refl _) (Nat.le_refl _) ?_
  refine lv_dup hx hb d_Disk_init_8 rfl ?_
  have hPc := hP.sub (ws' := [(q5, .inr (1, [.int 0, .int 0, .int 0]))]) [1] rfl
  have hDc := hD.sub (ws' := [(q5, .inr (1, [.int 0, .int 0, .int 0]))]) [1] (by decide) rfl
  have hKc := hK.sub (tys' := []) [] rfl
  have hFc := va_free (wc := [(q5, .inr (1, [.int 0, .int 0, .int 0]))]) hD hS hA [1] rfl
  refine va_callv (va_runIN (As := []) (rest := [.ref q5, .ref h0]) ⟨hx, hb, hml, hown, hts⟩ (c_Power_init l D q5 H.size) ⟨va_cnB 0 hts (tj_good tj_Tg T_28) rfl rfl rfl (hN _ N_26) (hts _ T_3) (by decide +kernel) ⟨Nat.le_of_ble_eq_true rfl, Nat.le_of_ble_eq_true rfl⟩, rfl, hts _ T_27⟩ ⟨tj_cblind, fun U hU hW => ⟨rfl, by rw [hU], by rw [hU]; exact hPc, va_K.moved hW.alike hKc, hDc.weaken (fun _ _ _ _ => trivial), tj_nwarm tj_Ng hW hN⟩⟩ rfl rfl hl.1 rfl (lv_room (Nat.le_of_ble_eq_true rfl)) d_Disk_init_9 ⟨Nat.le_of_ble_eq_true rfl, Nat.le_of_ble_eq_true rfl⟩) hS (fun q _ h => hFc q h) hFc (fun u t H1 locs ht hvm _ hB hz1 hk1 hS => ?_)
  obtain ⟨hP1, hK1, hD1⟩ := hB
  rw [ht] at hP1
  have hK1 := va_K.moved hvm.symm hK1
  obtain ⟨hP, hD⟩ := va_join (wr := [(h0, .inr (2, [.null, .null, .null]))]) (w1 := [(q5, .inr (1, [.int (1), .int (-1), .int (0)]))]) hP hD [1] [0] rfl rfl (by decide) (by decide) hk1 hFc hP1 hD1
  have hK := hK.app hK1
  generalize H1 = H at hP hS ⊢
  have hP : va_P D tj_cls [(h0, .inr (2, [.null, .null, .null])), (q5, .inr (1, [.int (1), .int (-1), .int (0)]))] H := hP
  have hD : va_D A [(h0, .inr (2, [.null, .null, .null])), (q5, .inr (1, [.int (1), .int (-1), .int (0)]))] := hD
  have hK : va_K D tj_cls [] s := hK
  refine W.widen (k := 1) (n := 3) (Nat.le_refl _) (Nat.le_refl _) ?_
  refine va_putF (T := F_Disk) (N := 3) (C := "ThreeModeJournal$Disk") hx hb hts F_Disk_ok.1 ty_Disk F_Disk_ok.2.1 F_Disk_ok.2.2 hown hK hP hD hS 0 rfl rfl 0 (by decide) (hts _ T_79) (fun _ h9 => h9) rfl hin rfl (F_Disk_ok.2.1 0 (by decide)) rfl rfl (Nat.le_of_ble_eq_true rfl) d_Disk_init_12 (fun H locs hP hD hS => ?_)
  have hP : va_P D tj_cls [(h0, .inr (2, [.ref q5, .null, .null])), (q5, .inr (1, [.int (1), .int (-1), .int (0)]))] H := hP
  have hD : va_D A [(h0, .inr (2, [.ref q5, .null, .null])), (q5, .inr (1, [.int (1), .int (-1), .int (0)]))] := hD
  refine lv_aload_n hx hb d_Disk_init_15 rfl (lv_at hl 0 rfl) ?_
  refine lv_bipush (v := 92) hx hb d_Disk_init_16 (by decide) ?_
  refine va_newa (atype := .int) (ty := .int) (N' := 92) (a0 := (92, .inl (fun _ => (0 : Int32)))) hx hb (hts _ T_78) rfl hK hP hD hS hA (fun _ => rfl) (by decide) (by decide) (by decide) (Nat.le_of_ble_eq_true rfl) (Nat.le_of_ble_eq_true rfl) d_Disk_init_18 (fun q18 c18 H hK hP hD hS => ?_)
  have hP : va_P D tj_cls [(h0, .inr (2, [.ref q5, .null, .null])), (q5, .inr (1, [.int (1), .int (-1), .int (0)])), (q18, .inl (c18, 92, .inl (fun _ => (0 : Int32))))] H := hP
  have hD : va_D A [(h0, .inr (2, [.ref q5, .null, .null])), (q5, .inr (1, [.int (1), .int (-1), .int (0)])), (q18, .inl (c18, 92, .inl (fun _ => (0 : Int32))))] := hD
  have hK : va_K D tj_cls [(c18, .int)] s := hK
  refine W.widen (k := 2) (n := 95) (Nat.le_refl _) (Nat.le_refl _) ?_
  refine va_putF (T := F_Disk) (N := 3) (C := "ThreeModeJournal$Disk") hx hb hts F_Disk_ok.1 ty_Disk F_Disk_ok.2.1 F_Disk_ok.2.2 hown hK hP hD hS 0 rfl rfl 1 (by decide) (hts _ T_81) (fun _ h9 => h9) rfl hin rfl (F_Disk_ok.2.1 1 (by decide)) rfl rfl (Nat.le_of_ble_eq_true rfl) d_Disk_init_20 (fun H locs hP hD hS => ?_)
  have hP : va_P D tj_cls [(h0, .inr (2, [.ref q5, .ref q18, .null])), (q5, .inr (1, [.int (1), .int (-1), .int (0)])), (q18, .inl (c18, 92, .inl (fun _ => (0 : Int32))))] H := hP
  have hD : va_D A [(h0, .inr (2, [.ref q5, .ref q18, .null])), (q5, .inr (1, [.int (1), .int (-1), .int (0)])), (q18, .inl (c18, 92, .inl (fun _ => (0 : Int32))))] := hD
  refine lv_aload_n hx hb d_Disk_init_23 rfl (lv_at hl 0 rfl) ?_
  refine va_new (ci := 3) (fs := [.null, .null, .null, .null, .null, .int 0, .int 0, .int 0]) (C := "ThreeModeJournal$Log") (T := F_Log) (N := 8) hx hb hts F_Log_ok.1 ty_Log F_Log_ok.2.1 hown (hts _ T_43) (hts _ T_44) (hts _ T_4) hK hP hD hS hA rfl (by decide +kernel) (Nat.le_of_ble_eq_true rfl) (Nat.le_of_ble_eq_true rfl) d_Disk_init_24 (fun q24 H hP hD hS => ?_)
  have hP : va_P D tj_cls [(h0, .inr (2, [.ref q5, .ref q18, .null])), (q5, .inr (1, [.int (1), .int (-1), .int (0)])), (q18, .inl (c18, 92, .inl (fun _ => (0 : Int32)))), (q24, .inr (3, [.null, .null, .null, .null, .null, .int 0, .int 0, .int 0]))] H := hP
  have hD : va_D A [(h0, .inr (2, [.ref q5, .ref q18, .null])), (q5, .inr (1, [.int (1), .int (-1), .int (0)])), (q18, .inl (c18, 92, .inl (fun _ => (0 : Int32)))), (q24, .inr (3, [.null, .null, .null, .null, .null, .int 0, .int 0, .int 0]))] := hD
  refine W.widen (k := 3) (n := 103) (Nat.le_refl _) (Nat.le_refl _) ?_
  refine lv_dup hx hb d_Disk_init_27 rfl ?_
  have hPc := hP.sub (ws' := [(q24, .inr (3, [.null, .null, .null, .null, .null, .int 0, .int 0, .int 0]))]) [3] rfl
  have hDc := hD.sub (ws' := [(q24, .inr (3, [.null, .null, .null, .null, .null, .int 0, .int 0, .int 0]))]) [3] (by decide) rfl
  have hKc := hK.sub (tys' := []) [] rfl
  have hFc := va_free (wc := [(q24, .inr (3, [.null, .null, .null, .null, .null, .int 0, .int 0, .int 0]))]) hD hS hA [3] rfl
  refine va_callv (va_runIN (As := []) (rest := [.ref q24, .ref h0]) ⟨hx, hb, hml, hown, hts⟩ (c_Log_init l D q24 H.size) ⟨va_cnB 0 hts (tj_good tj_Tg T_47) rfl rfl rfl (hN _ N_45) (hts _ T_4) (by decide +kernel) ⟨Nat.le_of_ble_eq_true rfl, Nat.le_of_ble_eq_true rfl⟩, rfl, hts _ T_46⟩ ⟨tj_cblind, fun U hU hW => ⟨rfl, by rw [hU], by rw [hU]; exact hPc, va_K.moved hW.alike hKc, hDc.weaken (fun _ _ _ _ => trivial), tj_nwarm tj_Ng hW hN⟩⟩ rfl rfl hl.1 rfl (lv_room (Nat.le_of_ble_eq_true rfl)) d_Disk_init_28 ⟨Nat.le_of_ble_eq_true rfl, Nat.le_of_ble_eq_true rfl⟩) hS (fun q _ h => hFc q h) hFc (fun u t H1 locs ht hvm _ hB hz1 hk1 hS => ?_)
  obtain ⟨q7_28, q15_28, q23_28, q31_28, q39_28, c7_28, c15_28, c23_28, c31_28, c39_28, hP1, hK1, hD1⟩ := hB
  rw [ht] at hP1
  have hK1 := va_K.moved hvm.symm hK1
  obtain ⟨hP, hD⟩ := va_join (wr := [(h0, .inr (2, [.ref q5, .ref q18, .null])), (q5, .inr (1, [.int (1), .int (-1), .int (0)])), (q18, .inl (c18, 92, .inl (fun _ => (0 : Int32))))]) (w1 := [(q24, .inr (3, [.ref q7_28, .ref q15_28, .ref q23_28, .ref q31_28, .ref q39_28, .int (0), .int (0), .int (0)])), (q7_28, .inl (c7_28, 96, .inl (fun _ => (0 : Int32)))), (q15_28, .inl (c15_28, 8, .inl (fun _ => (0 : Int32)))), (q23_28, .inl (c23_28, 8, .inl (fun _ => (0 : Int32)))), (q31_28, .inl (c31_28, 8, .inl (fun _ => (0 : Int32)))), (q39_28, .inl (c39_28, 8, .inl (fun _ => (0 : Int32))))]) hP hD [3] [0, 1, 2] rfl rfl (by decide) (by decide) hk1 hFc hP1 hD1
  have hK := hK.app hK1
  generalize H1 = H at hP hS ⊢
  have hP : va_P D tj_cls [(h0, .inr (2, [.ref q5, .ref q18, .null])), (q5, .inr (1, [.int (1), .int (-1), .int (0)])), (q18, .inl (c18, 92, .inl (fun _ => (0 : Int32)))), (q24, .inr (3, [.ref q7_28, .ref q15_28, .ref q23_28, .ref q31_28, .ref q39_28, .int (0), .int (0), .int (0)])), (q7_28, .inl (c7_28, 96, .inl (fun _ => (0 : Int32)))), (q15_28, .inl (c15_28, 8, .inl (fun _ => (0 : Int32)))), (q23_28, .inl (c23_28, 8, .inl (fun _ => (0 : Int32)))), (q31_28, .inl (c31_28, 8, .inl (fun _ => (0 : Int32)))), (q39_28, .inl (c39_28, 8, .inl (fun _ => (0 : Int32))))] H := hP
  have hD : va_D A [(h0, .inr (2, [.ref q5, .ref q18, .null])), (q5, .inr (1, [.int (1), .int (-1), .int (0)])), (q18, .inl (c18, 92, .inl (fun _ => (0 : Int32)))), (q24, .inr (3, [.ref q7_28, .ref q15_28, .ref q23_28, .ref q31_28, .ref q39_28, .int (0), .int (0), .int (0)])), (q7_28, .inl (c7_28, 96, .inl (fun _ => (0 : Int32)))), (q15_28, .inl (c15_28, 8, .inl (fun _ => (0 : Int32)))), (q23_28, .inl (c23_28, 8, .inl (fun _ => (0 : Int32)))), (q31_28, .inl (c31_28, 8, .inl (fun _ => (0 : Int32)))), (q39_28, .inl (c39_28, 8, .inl (fun _ => (0 : Int32))))] := hD
  have hK : va_K D tj_cls [(c18, .int), (c7_28, .int), (c15_28, .int), (c23_28, .int), (c31_28, .int), (c39_28, .int)] s := hK
  refine W.widen (k := 8) (n := 231) (Nat.le_refl _) (Nat.le_refl _) ?_
  refine va_putF (T := F_Disk) (N := 3) (C := "ThreeModeJournal$Disk") hx hb hts F_Disk_ok.1 ty_Disk F_Disk_ok.2.1 F_Disk_ok.2.2 hown hK hP hD hS 0 rfl rfl 2 (by decide) (hts _ T_83) (fun _ h9 => h9) rfl hin rfl (F_Disk_ok.2.1 2 (by decide)) rfl rfl (Nat.le_of_ble_eq_true rfl) d_Disk_init_31 (fun H locs hP hD hS => ?_)
  have hP : va_P D tj_cls [(h0, .inr (2, [.ref q5, .ref q18, .ref q24])), (q5, .inr (1, [.int (1), .int (-1), .int (0)])), (q18, .inl (c18, 92, .inl (fun _ => (0 : Int32)))), (q24, .inr (3, [.ref q7_28, .ref q15_28, .ref q23_28, .ref q31_28, .ref q39_28, .int (0), .int (0), .int (0)])), (q7_28, .inl (c7_28, 96, .inl (fun _ => (0 : Int32)))), (q15_28, .inl (c15_28, 8, .inl (fun _ => (0 : Int32)))), (q23_28, .inl (c23_28, 8, .inl (fun _ => (0 : Int32)))), (q31_28, .inl (c31_28, 8, .inl (fun _ => (0 : Int32)))), (q39_28, .inl (c39_28, 8, .inl (fun _ => (0 : Int32))))] H := hP
  have hD : va_D A [(h0, .inr (2, [.ref q5, .ref q18, .ref q24])), (q5, .inr (1, [.int (1), .int (-1), .int (0)])), (q18, .inl (c18, 92, .inl (fun _ => (0 : Int32)))), (q24, .inr (3, [.ref q7_28, .ref q15_28, .ref q23_28, .ref q31_28, .ref q39_28, .int (0), .int (0), .int (0)])), (q7_28, .inl (c7_28, 96, .inl (fun _ => (0 : Int32)))), (q15_28, .inl (c15_28, 8, .inl (fun _ => (0 : Int32)))), (q23_28, .inl (c23_28, 8, .inl (fun _ => (0 : Int32)))), (q31_28, .inl (c31_28, 8, .inl (fun _ => (0 : Int32)))), (q39_28, .inl (c39_28, 8, .inl (fun _ => (0 : Int32))))] := hD
  exact W.vret hx hb hr (fun t ht hW => ⟨⟨(), rfl, trivial, q5, q18, q24, q7_28, q15_28, q23_28, q31_28, q39_28, c18, c7_28, c15_28, c23_28, c31_28, c39_28, by rw [ht]; exact hP, va_K.moved hW.alike hK, hD⟩, hS.F ht⟩) hS.2.2 d_Disk_init_34
def at_Mem (D : va_G) (A : Nat → Prop) (h0 : Nat) (t : State) : Prop := ∃ (q7 q15 : Nat) (c7 c15 : ClassId), va_P D tj_cls [(h0, .inr (4, [.ref q7, .ref q15, .int (0), .int (0), .int (0), .int (0)])), (q7, .inl (c7, 92, .inl (fun _ => (0 : Int32)))), (q15, .inl (c15, 16, .inl (fun _ => (0 : Int32))))] t.heap ∧ va_K D tj_cls [(c7, .int), (c15, .int)] t ∧ va_D A [(h0, .inr (4, [.ref q7, .ref q15, .int (0), .int (0), .int (0), .int (0)])), (q7, .inl (c7, 92, .inl (fun _ => (0 : Int32)))), (q15, .inl (c15, 16, .inl (fun _ => (0 : Int32))))]
set_option maxRecDepth 100000 in
set_option maxHeartbeats 4000000 in
theorem c_Mem_init (l : Launch) (D : va_G) (h0 sz : Nat) : Met l y_Mem_init (Cond.code y_Mem_init b_Mem_init 1 none :: tj_T) { frames := 1, cells := 2, slots := 108, locals := 12 } (va_Pc [.ref h0] (fun U => U.heap.size = sz ∧ va_P D tj_cls [(h0, .inr (4, [.null, .null, .int 0, .int 0, .int 0, .int 0]))] U.heap ∧ va_K D tj_cls [] U ∧ va_D (fun _ => True) [(h0, .inr (4, [.null, .null, .int 0, .int 0, .int 0, .int 0]))] ∧ ∀ w ∈ tj_N, va_Nw w U)) (va_Qv (fun _ : Unit => True) (fun _ t => at_Mem D (va_A [(h0, .inr (4, [.null, .null, .int 0, .int 0, .int 0, .int 0]))] sz) h0 t) (va_A [(h0, .inr (4, [.null, .null, .int 0, .int 0, .int 0, .int 0]))] sz)) 2 108 (va_A [(h0, .inr (4, [.null, .null, .int 0, .int 0, .int 0, .int 0]))] sz) := by
  refine Met.ofW (cc := b_Mem_init) (maxL := 1) (ret := none) (by decide) rfl ?_
  intro p e s m args below meth c s₁ B hml hv
  obtain ⟨rfl, hsz, hP, hK, hD0, hN⟩ := hv
  have hx := B.exec
  have hb := B.bytes
  have hr := B.returns
  have hts0 := atoms_spec (ws := Cond.code y_Mem_init b_Mem_init 1 none :: tj_T) B.pre
  have hts : ∀ w ∈ tj_T, w.before ([Value.ref h0] : List Value).toArray s = true := fun w hw => hts0 w (List.mem_cons_of_mem _ hw)
  have hown : s.vm.findClass "ThreeModeJournal$Memory" = some m.cls := findClass_of_methodNamed B.named
  have hlocks := B.notSynchronized
  have hin : meth.name = "<init>" := (name_of_methodNamed B.named B.method).1
  subst hsz
  have hD := hD0.self (sz := s.heap.size)
  generalize hAe : va_A [(h0, .inr (4, [.null, .null, .int 0, .int 0, .int 0, .int 0]))] s.heap.size = A at hD ⊢
  have hA : ∀ q : Nat, s.heap.size ≤ q → A q := fun q h => by rw [← hAe]; exact Or.inr h
  have hS : va_S A s.heap s.heap [] := va_S.rf
  have hP : va_P D tj_cls [(h0, .inr (4, [.null, .null, .int 0, .int 0, .int 0, .int 0]))] s.heap := hP
  have hl := lv_entry ([.ref h0]) (n := 1) (Nat.le_of_ble_eq_true rfl)
  rw [lg_entry_eq]
  generalize (lg_sl ([.ref h0]) ++ List.replicate (1 - (lg_sl ([.ref h0])).length) Slot.unset).toArray = ls at hl ⊢
  have hl : lv_has ls 1 [(0, .ref h0)] := hl
  refine lv_aload_n hx hb d_Mem_init_0 rfl (lv_at hl 0 rfl) ?_
  refine W.objInit hx hb hown (hts _ T_97) (hts _ T_16) (hts _ T_17) rfl (by rw [hml]; exact hl.1) rfl d_Mem_init_1 (Nat.le_of_ble_eq_true rfl) (Nat.le_of_ble_eq_true rfl) ?_
  refine W.eq (g2 := F0 m 4 ls []) rfl ?_
  refine lv_aload_n hx hb d_Mem_init_4 rfl (lv_at hl 0 rfl) ?_
  refine lv_bipush (v := 92) hx hb d_Mem_init_5 (by decide) ?_
  refine va_newa (atype := .int) (ty := .int) (N' := 92) (a0 := (92, .inl (fun _ => (0 : Int32)))) hx hb (hts _ T_78) rfl hK hP hD hS hA (fun _ => rfl) (by decide) (by decide) (by decide) (Nat.le_of_ble_eq_true rfl) (Nat.le_of_ble_eq_true rfl) d_Mem_init_7 (fun q7 c7 H hK hP hD hS => ?_)
  have hP : va_P D tj_cls [(h0, .inr (4, [.null, .null, .int 0, .int 0, .int 0, .int 0])), (q7, .inl (c7, 92, .inl (fun _ => (0 : Int32))))] H := hP
  have hD : va_D A [(h0, .inr (4, [.null, .null, .int 0, .int 0, .int 0, .int 0])), (q7, .inl (c7, 92, .inl (fun _ => (0 : Int32))))] := hD
  have hK : va_K D tj_cls [(c7, .int)] s := hK
  refine W.widen (k := 1) (n := 92) (Nat.le_refl _) (Nat.le_refl _) ?_
  refine va_putF (T := F_Mem) (N := 6) (C := "ThreeModeJournal$Memory") hx hb hts F_Mem_ok.1 ty_Mem F_Mem_ok.2.1 F_Mem_ok.2.2 hown hK hP hD hS 0 rfl rfl 0 (by decide) (hts _ T_98) (fun _ h9 => h9) rfl hin rfl (F_Mem_ok.2.1 0 (by decide)) rfl rfl (Nat.le_of_ble_eq_true rfl) d_Mem_init_9 (fun H locs hP hD hS => ?_)
  have hP : va_P D tj_cls [(h0, .inr (4, [.ref q7, .null, .int 0, .int 0, .int 0, .int 0])), (q7, .inl (c7, 92, .inl (fun _ => (0 : Int32))))] H := hP
  have hD : va_D A [(h0, .inr (4, [.ref q7, .null, .int 0, .int 0, .int 0, .int 0])), (q7, .inl (c7, 92, .inl (fun _ => (0 : Int32))))] := hD
  refine lv_aload_n hx hb d_Mem_init_12 rfl (lv_at hl 0 rfl) ?_
  refine lv_bipush (v := 16) hx hb d_Mem_init_13 (by decide) ?_
  refine va_newa (atype := .int) (ty := .int) (N' := 16) (a0 := (16, .inl (fun _ => (0 : Int32)))) hx hb (hts _ T_78) rfl hK hP hD hS hA (fun _ => rfl) (by decide) (by decide) (by decide) (Nat.le_of_ble_eq_true rfl) (Nat.le_of_ble_eq_true rfl) d_Mem_init_15 (fun q15 c15 H hK hP hD hS => ?_)
  have hP : va_P D tj_cls [(h0, .inr (4, [.ref q7, .null, .int 0, .int 0, .int 0, .int 0])), (q7, .inl (c7, 92, .inl (fun _ => (0 : Int32)))), (q15, .inl (c15, 16, .inl (fun _ => (0 : Int32))))] H := hP
  have hD : va_D A [(h0, .inr (4, [.ref q7, .null, .int 0, .int 0, .int 0, .int 0])), (q7, .inl (c7, 92, .inl (fun _ => (0 : Int32)))), (q15, .inl (c15, 16, .inl (fun _ => (0 : Int32))))] := hD
  have hK : va_K D tj_cls [(c7, .int), (c15, .int)] s := hK
  refine W.widen (k := 2) (n := 108) (Nat.le_refl _) (Nat.le_refl _) ?_
  refine va_putF (T := F_Mem) (N := 6) (C := "ThreeModeJournal$Memory") hx hb hts F_Mem_ok.1 ty_Mem F_Mem_ok.2.1 F_Mem_ok.2.2 hown hK hP hD hS 0 rfl rfl 1 (by decide) (hts _ T_101) (fun _ h9 => h9) rfl hin rfl (F_Mem_ok.2.1 1 (by decide)) rfl rfl (Nat.le_of_ble_eq_true rfl) d_Mem_init_17 (fun H locs hP hD hS => ?_)
  have hP : va_P D tj_cls [(h0, .inr (4, [.ref q7, .ref q15, .int 0, .int 0, .int 0, .int 0])), (q7, .inl (c7, 92, .inl (fun _ => (0 : Int32)))), (q15, .inl (c15, 16, .inl (fun _ => (0 : Int32))))] H := hP
  have hD : va_D A [(h0, .inr (4, [.ref q7, .ref q15, .int 0, .int 0, .int 0, .int 0])), (q7, .inl (c7, 92, .inl (fun _ => (0 : Int32)))), (q15, .inl (c15, 16, .inl (fun _ => (0 : Int32))))] := hD
  refine lv_aload_n hx hb d_Mem_init_20 rfl (lv_at hl 0 rfl) ?_
  refine lv_iconst (v := 0) hx hb d_Mem_init_21 (by decide) ?_
  refine va_put (T := F_Mem) (N := 6) (C := "ThreeModeJournal$Memory") hx hb hts F_Mem_ok.1 ty_Mem F_Mem_ok.2.1 F_Mem_ok.2.2 hown hK hP hD hS 0 rfl rfl 2 (by decide) (hts _ T_102) (fun _ h9 => h9) rfl (F_Mem_ok.2.1 2 (by decide)) rfl rfl (Nat.le_of_ble_eq_true rfl) d_Mem_init_22 (fun H locs hP hD hS => ?_)
  have hP : va_P D tj_cls [(h0, .inr (4, [.ref q7, .ref q15, .int (0), .int 0, .int 0, .int 0])), (q7, .inl (c7, 92, .inl (fun _ => (0 : Int32)))), (q15, .inl (c15, 16, .inl (fun _ => (0 : Int32))))] H := hP
  have hD : va_D A [(h0, .inr (4, [.ref q7, .ref q15, .int (0), .int 0, .int 0, .int 0])), (q7, .inl (c7, 92, .inl (fun _ => (0 : Int32)))), (q15, .inl (c15, 16, .inl (fun _ => (0 : Int32))))] := hD
  refine lv_aload_n hx hb d_Mem_init_25 rfl (lv_at hl 0 rfl) ?_
  refine lv_iconst (v := 0) hx hb d_Mem_init_26 (by decide) ?_
  refine va_put (T := F_Mem) (N := 6) (C := "ThreeModeJournal$Memory") hx hb hts F_Mem_ok.1 ty_Mem F_Mem_ok.2.1 F_Mem_ok.2.2 hown hK hP hD hS 0 rfl rfl 3 (by decide) (hts _ T_104) (fun _ h9 => h9) rfl (F_Mem_ok.2.1 3 (by decide)) rfl rfl (Nat.le_of_ble_eq_true rfl) d_Mem_init_27 (fun H locs hP hD hS => ?_)
  have hP : va_P D tj_cls [(h0, .inr (4, [.ref q7, .ref q15, .int (0), .int (0), .int 0, .int 0])), (q7, .inl (c7, 92, .inl (fun _ => (0 : Int32)))), (q15, .inl (c15, 16, .inl (fun _ => (0 : Int32))))] H := hP
  have hD : va_D A [(h0, .inr (4, [.ref q7, .ref q15, .int (0), .int (0), .int 0, .int 0])), (q7, .inl (c7, 92, .inl (fun _ => (0 : Int32)))), (q15, .inl (c15, 16, .inl (fun _ => (0 : Int32))))] := hD
  refine lv_aload_n hx hb d_Mem_init_30 rfl (lv_at hl 0 rfl) ?_
  refine lv_iconst (v := 0) hx hb d_Mem_init_31 (by decide) ?_
  refine va_put (T := F_Mem) (N := 6) (C := "ThreeModeJournal$Memory") hx hb hts F_Mem_ok.1 ty_Mem F_Mem_ok.2.1 F_Mem_ok.2.2 hown hK hP hD hS 0 rfl rfl 4 (by decide) (hts _ T_106) (fun _ h9 => h9) rfl (F_Mem_ok.2.1 4 (by decide)) rfl rfl (Nat.le_of_ble_eq_true rfl) d_Mem_init_32 (fun H locs hP hD hS => ?_)
  have hP : va_P D tj_cls [(h0, .inr (4, [.ref q7, .ref q15, .int (0), .int (0), .int (0), .int 0])), (q7, .inl (c7, 92, .inl (fun _ => (0 : Int32)))), (q15, .inl (c15, 16, .inl (fun _ => (0 : Int32))))] H := hP
  have hD : va_D A [(h0, .inr (4, [.ref q7, .ref q15, .int (0), .int (0), .int (0), .int 0])), (q7, .inl (c7, 92, .inl (fun _ => (0 : Int32)))), (q15, .inl (c15, 16, .inl (fun _ => (0 : Int32))))] := hD
  refine lv_aload_n hx hb d_Mem_init_35 rfl (lv_at hl 0 rfl) ?_
  refine lv_iconst (v := 0) hx hb d_Mem_init_36 (by decide) ?_
  refine va_put (T := F_Mem) (N := 6) (C := "ThreeModeJournal$Memory") hx hb hts F_Mem_ok.1 ty_Mem F_Mem_ok.2.1 F_Mem_ok.2.2 hown hK hP hD hS 0 rfl rfl 5 (by decide) (hts _ T_108) (fun _ h9 => h9) rfl (F_Mem_ok.2.1 5 (by decide)) rfl rfl (Nat.le_of_ble_eq_true rfl) d_Mem_init_37 (fun H locs hP hD hS => ?_)
  have hP : va_P D tj_cls [(h0, .inr (4, [.ref q7, .ref q15, .int (0), .int (0), .int (0), .int (0)])), (q7, .inl (c7, 92, .inl (fun _ => (0 : Int32)))), (q15, .inl (c15, 16, .inl (fun _ => (0 : Int32))))] H := hP
  have hD : va_D A [(h0, .inr (4, [.ref q7, .ref q15, .int (0), .int (0), .int (0), .int (0)])), (q7, .inl (c7, 92, .inl (fun _ => (0 : Int32)))), (q15, .inl (c15, 16, .inl (fun _ => (0 : Int32))))] := hD
  exact W.vret hx hb hr (fun t ht hW => ⟨⟨(), rfl, trivial, q7, q15, c7, c15, by rw [ht]; exact hP, va_K.moved hW.alike hK, hD⟩, hS.F ht⟩) hS.2.2 d_Mem_init_40
def at_X (D : va_G) (A : Nat → Prop) (h0 : Nat) (t : State) : Prop := ∃ (q5 q5_9 q18_9 q24_9 q7_28_9 q15_28_9 q23_28_9 q31_28_9 q39_28_9 q27 q7_31 q15_31 : Nat) (c18_9 c7_28_9 c15_28_9 c23_28_9 c31_28_9 c39_28_9 c7_31 c15_31 : ClassId), va_P D tj_cls [(h0, .inr (0, [.ref q5_9, .ref q5, .ref q27, .int (1)])), (q5, .inr (2, [.ref q5_9, .ref q18_9, .ref q24_9])), (q5_9, .inr (1, [.int (1), .int (-1), .int (0)])), (q18_9, .inl (c18_9, 92, .inl (fun _ => (0 : Int32)))), (q24_9, .inr (3, [.ref q7_28_9, .ref q15_28_9, .ref q23_28_9, .ref q31_28_9, .ref q39_28_9, .int (0), .int (0), .int (0)])), (q7_28_9, .inl (c7_28_9, 96, .inl (fun _ => (0 : Int32)))), (q15_28_9, .inl (c15_28_9, 8, .inl (fun _ => (0 : Int32)))), (q23_28_9, .inl (c23_28_9, 8, .inl (fun _ => (0 : Int32)))), (q31_28_9, .inl (c31_28_9, 8, .inl (fun _ => (0 : Int32)))), (q39_28_9, .inl (c39_28_9, 8, .inl (fun _ => (0 : Int32)))), (q27, .inr (4, [.ref q7_31, .ref q15_31, .int (0), .int (0), .int (0), .int (0)])), (q7_31, .inl (c7_31, 92, .inl (fun _ => (0 : Int32)))), (q15_31, .inl (c15_31, 16, .inl (fun _ => (0 : Int32))))] t.heap ∧ va_K D tj_cls [(c18_9, .int), (c7_28_9, .int), (c15_28_9, .int), (c23_28_9, .int), (c31_28_9, .int), (c39_28_9, .int), (c7_31, .int), (c15_31, .int)] t ∧ va_D A [(h0, .inr (0, [.ref q5_9, .ref q5, .ref q27, .int (1)])), (q5, .inr (2, [.ref q5_9, .ref q18_9, .ref q24_9])), (q5_9, .inr (1, [.int (1), .int (-1), .int (0)])), (q18_9, .inl (c18_9, 92, .inl (fun _ => (0 : Int32)))), (q24_9, .inr (3, [.ref q7_28_9, .ref q15_28_9, .ref q23_28_9, .ref q31_28_9, .ref q39_28_9, .int (0), .int (0), .int (0)])), (q7_28_9, .inl (c7_28_9, 96, .inl (fun _ => (0 : Int32)))), (q15_28_9, .inl (c15_28_9, 8, .inl (fun _ => (0 : Int32)))), (q23_28_9, .inl (c23_28_9, 8, .inl (fun _ => (0 : Int32)))), (q31_28_9, .inl (c31_28_9, 8, .inl (fun _ => (0 : Int32)))), (q39_28_9, .inl (c39_28_9, 8, .inl (fun _ => (0 : Int32)))), (q27, .inr (4, [.ref q7_31, .ref q15_31, .int (0), .int (0), .int (0), .int (0)])), (q7_31, .inl (c7_31, 92, .inl (fun _ => (0 : Int32)))), (q15_31, .inl (c15_31, 16, .inl (fun _ => (0 : Int32))))]
set_option maxRecDepth 100000 in
set_option maxHeartbeats 4000000 in
theorem c_X_init (l : Launch) (D : va_G) (h0 sz : Nat) : Met l y_X_init (Cond.code y_X_init b_X_init 1 none :: tj_T) { frames := 3, cells := 12, slots := 348, locals := 52 } (va_Pc [.ref h0] (fun U => U.heap.size = sz ∧ va_P D tj_cls [(h0, .inr (0, [.null, .null, .null, .int 0]))] U.heap ∧ va_K D tj_cls [] U ∧ va_D (fun _ => True) [(h0, .inr (0, [.null, .null, .null, .int 0]))] ∧ ∀ w ∈ tj_N, va_Nw w U)) (va_Qv (fun _ : Unit => True) (fun _ t => at_X D (va_A [(h0, .inr (0, [.null, .null, .null, .int 0]))] sz) h0 t) (va_A [(h0, .inr (0, [.null, .null, .null, .int 0]))] sz)) 12 348 (va_A [(h0, .inr (0, [.null, .null, .null, .int 0]))] sz) := by
  refine Met.ofW (cc := b_X_init) (maxL := 1) (ret := none) (by decide) rfl ?_
  intro p e s m args below meth c s₁ B hml hv
  obtain ⟨rfl, hsz, hP, hK, hD0, hN⟩ := hv
  have hx := B.exec
  have hb := B.bytes
  have hr := B.returns
  have hts0 := atoms_spec (ws := Cond.code y_X_init b_X_init 1 none :: tj_T) B.pre
  have hts : ∀ w ∈ tj_T, w.before ([Value.ref h0] : List Value).toArray s = true := fun w hw => hts0 w (List.mem_cons_of_mem _ hw)
  have hown : s.vm.findClass "ThreeModeJournal" = some m.cls := findClass_of_methodNamed B.named
  have hlocks := B.notSynchronized
  have hin : meth.name = "<init>" := (name_of_methodNamed B.named B.method).1
  subst hsz
  have hD := hD0.self (sz := s.heap.size)
  generalize hAe : va_A [(h0, .inr (0, [.null, .null, .null, .int 0]))] s.heap.size = A at hD ⊢
  have hA : ∀ q : Nat, s.heap.size ≤ q → A q := fun q h => by rw [← hAe]; exact Or.inr h
  have hS : va_S A s.heap s.heap [] := va_S.rf
  have hP : va_P D tj_cls [(h0, .inr (0, [.null, .null, .null, .int 0]))] s.heap := hP
  have hl := lv_entry ([.ref h0]) (n := 1) (Nat.le_of_ble_eq_true rfl)
  rw [lg_entry_eq]
  generalize (lg_sl ([.ref h0]) ++ List.replicate (1 - (lg_sl ([.ref h0])).length) Slot.unset).toArray = ls at hl ⊢
  have hl : lv_has ls 1 [(0, .ref h0)] := hl
  refine lv_aload_n hx hb d_X_init_0 rfl (lv_at hl 0 rfl) ?_
  refine W.objInit hx hb hown (hts _ T_15) (hts _ T_16) (hts _ T_17) rfl (by rw [hml]; exact hl.1) rfl d_X_init_1 (Nat.le_of_ble_eq_true rfl) (Nat.le_of_ble_eq_true rfl) ?_
  refine W.eq (g2 := F0 m 4 ls []) rfl ?_
  refine lv_aload_n hx hb d_X_init_4 rfl (lv_at hl 0 rfl) ?_
  refine va_new (ci := 2) (fs := [.null, .null, .null]) (C := "ThreeModeJournal$Disk") (T := F_Disk) (N := 3) hx hb hts F_Disk_ok.1 ty_Disk F_Disk_ok.2.1 hown (hts _ T_18) (hts _ T_19) (hts _ T_2) hK hP hD hS hA rfl (by decide +kernel) (Nat.le_of_ble_eq_true rfl) (Nat.le_of_ble_eq_true rfl) d_X_init_5 (fun q5 H hP hD hS => ?_)
  have hP : va_P D tj_cls [(h0, .inr (0, [.null, .null, .null, .int 0])), (q5, .inr (2, [.null, .null, .null]))] H := hP
  have hD : va_D A [(h0, .inr (0, [.null, .null, .null, .int 0])), (q5, .inr (2, [.null, .null, .null]))] := hD
  refine W.widen (k := 1) (n := 3) (Nat.le_refl _) (Nat.le_refl _) ?_
  refine lv_dup hx hb d_X_init_8 rfl ?_
  have hPc := hP.sub (ws' := [(q5, .inr (2, [.null, .null, .null]))]) [1] rfl
  have hDc := hD.sub (ws' := [(q5, .inr (2, [.null, .null, .null]))]) [1] (by decide) rfl
  have hKc := hK.sub (tys' := []) [] rfl
  have hFc := va_free (wc := [(q5, .inr (2, [.null, .null, .null]))]) hD hS hA [1] rfl
  refine va_callv (va_runIN (As := []) (rest := [.ref q5, .ref h0]) ⟨hx, hb, hml, hown, hts⟩ (c_Disk_init l D q5 H.size) ⟨va_cnB 0 hts (tj_good tj_Tg T_22) rfl rfl rfl (hN _ N_20) (hts _ T_2) (by decide +kernel) ⟨Nat.le_of_ble_eq_true rfl, Nat.le_of_ble_eq_true rfl⟩, rfl, hts _ T_21⟩ ⟨tj_cblind, fun U hU hW => ⟨rfl, by rw [hU], by rw [hU]; exact hPc, va_K.moved hW.alike hKc, hDc.weaken (fun _ _ _ _ => trivial), tj_nwarm tj_Ng hW hN⟩⟩ rfl rfl hl.1 rfl (lv_room (Nat.le_of_ble_eq_true rfl)) d_X_init_9 ⟨Nat.le_of_ble_eq_true rfl, Nat.le_of_ble_eq_true rfl⟩) hS (fun q _ h => hFc q h) hFc (fun u t H1 locs ht hvm _ hB hz1 hk1 hS => ?_)
  obtain ⟨q5_9, q18_9, q24_9, q7_28_9, q15_28_9, q23_28_9, q31_28_9, q39_28_9, c18_9, c7_28_9, c15_28_9, c23_28_9, c31_28_9, c39_28_9, hP1, hK1, hD1⟩ := hB
  rw [ht] at hP1
  have hK1 := va_K.moved hvm.symm hK1
  obtain ⟨hP, hD⟩ := va_join (wr := [(h0, .inr (0, [.null, .null, .null, .int 0]))]) (w1 := [(q5, .inr (2, [.ref q5_9, .ref q18_9, .ref q24_9])), (q5_9, .inr (1, [.int (1), .int (-1), .int (0)])), (q18_9, .inl (c18_9, 92, .inl (fun _ => (0 : Int32)))), (q24_9, .inr (3, [.ref q7_28_9, .ref q15_28_9, .ref q23_28_9, .ref q31_28_9, .ref q39_28_9, .int (0), .int (0), .int (0)])), (q7_28_9, .inl (c7_28_9, 96, .inl (fun _ => (0 : Int32)))), (q15_28_9, .inl (c15_28_9, 8, .inl (fun _ => (0 : Int32)))), (q23_28_9, .inl (c23_28_9, 8, .inl (fun _ => (0 : Int32)))), (q31_28_9, .inl (c31_28_9, 8, .inl (fun _ => (0 : Int32)))), (q39_28_9, .inl (c39_28_9, 8, .inl (fun _ => (0 : Int32))))]) hP hD [1] [0] rfl rfl (by decide) (by decide) hk1 hFc hP1 hD1
  have hK := hK.app hK1
  generalize H1 = H at hP hS ⊢
  have hP : va_P D tj_cls [(h0, .inr (0, [.null, .null, .null, .int 0])), (q5, .inr (2, [.ref q5_9, .ref q18_9, .ref q24_9])), (q5_9, .inr (1, [.int (1), .int (-1), .int (0)])), (q18_9, .inl (c18_9, 92, .inl (fun _ => (0 : Int32)))), (q24_9, .inr (3, [.ref q7_28_9, .ref q15_28_9, .ref q23_28_9, .ref q31_28_9, .ref q39_28_9, .int (0), .int (0), .int (0)])), (q7_28_9, .inl (c7_28_9, 96, .inl (fun _ => (0 : Int32)))), (q15_28_9, .inl (c15_28_9, 8, .inl (fun _ => (0 : Int32)))), (q23_28_9, .inl (c23_28_9, 8, .inl (fun _ => (0 : Int32)))), (q31_28_9, .inl (c31_28_9, 8, .inl (fun _ => (0 : Int32)))), (q39_28_9, .inl (c39_28_9, 8, .inl (fun _ => (0 : Int32))))] H := hP
  have hD : va_D A [(h0, .inr (0, [.null, .null, .null, .int 0])), (q5, .inr (2, [.ref q5_9, .ref q18_9, .ref q24_9])), (q5_9, .inr (1, [.int (1), .int (-1), .int (0)])), (q18_9, .inl (c18_9, 92, .inl (fun _ => (0 : Int32)))), (q24_9, .inr (3, [.ref q7_28_9, .ref q15_28_9, .ref q23_28_9, .ref q31_28_9, .ref q39_28_9, .int (0), .int (0), .int (0)])), (q7_28_9, .inl (c7_28_9, 96, .inl (fun _ => (0 : Int32)))), (q15_28_9, .inl (c15_28_9, 8, .inl (fun _ => (0 : Int32)))), (q23_28_9, .inl (c23_28_9, 8, .inl (fun _ => (0 : Int32)))), (q31_28_9, .inl (c31_28_9, 8, .inl (fun _ => (0 : Int32)))), (q39_28_9, .inl (c39_28_9, 8, .inl (fun _ => (0 : Int32))))] := hD
  have hK : va_K D tj_cls [(c18_9, .int), (c7_28_9, .int), (c15_28_9, .int), (c23_28_9, .int), (c31_28_9, .int), (c39_28_9, .int)] s := hK
  refine W.widen (k := 9) (n := 234) (Nat.le_refl _) (Nat.le_refl _) ?_
  refine va_putF (T := F_X) (N := 4) (C := "ThreeModeJournal") hx hb hts F_X_ok.1 ty_X F_X_ok.2.1 F_X_ok.2.2 hown hK hP hD hS 0 rfl rfl 1 (by decide) (hts _ T_123) (fun _ h9 => h9) rfl hin rfl (F_X_ok.2.1 1 (by decide)) rfl rfl (Nat.le_of_ble_eq_true rfl) d_X_init_12 (fun H locs hP hD hS => ?_)
  have hP : va_P D tj_cls [(h0, .inr (0, [.null, .ref q5, .null, .int 0])), (q5, .inr (2, [.ref q5_9, .ref q18_9, .ref q24_9])), (q5_9, .inr (1, [.int (1), .int (-1), .int (0)])), (q18_9, .inl (c18_9, 92, .inl (fun _ => (0 : Int32)))), (q24_9, .inr (3, [.ref q7_28_9, .ref q15_28_9, .ref q23_28_9, .ref q31_28_9, .ref q39_28_9, .int (0), .int (0), .int (0)])), (q7_28_9, .inl (c7_28_9, 96, .inl (fun _ => (0 : Int32)))), (q15_28_9, .inl (c15_28_9, 8, .inl (fun _ => (0 : Int32)))), (q23_28_9, .inl (c23_28_9, 8, .inl (fun _ => (0 : Int32)))), (q31_28_9, .inl (c31_28_9, 8, .inl (fun _ => (0 : Int32)))), (q39_28_9, .inl (c39_28_9, 8, .inl (fun _ => (0 : Int32))))] H := hP
  have hD : va_D A [(h0, .inr (0, [.null, .ref q5, .null, .int 0])), (q5, .inr (2, [.ref q5_9, .ref q18_9, .ref q24_9])), (q5_9, .inr (1, [.int (1), .int (-1), .int (0)])), (q18_9, .inl (c18_9, 92, .inl (fun _ => (0 : Int32)))), (q24_9, .inr (3, [.ref q7_28_9, .ref q15_28_9, .ref q23_28_9, .ref q31_28_9, .ref q39_28_9, .int (0), .int (0), .int (0)])), (q7_28_9, .inl (c7_28_9, 96, .inl (fun _ => (0 : Int32)))), (q15_28_9, .inl (c15_28_9, 8, .inl (fun _ => (0 : Int32)))), (q23_28_9, .inl (c23_28_9, 8, .inl (fun _ => (0 : Int32)))), (q31_28_9, .inl (c31_28_9, 8, .inl (fun _ => (0 : Int32)))), (q39_28_9, .inl (c39_28_9, 8, .inl (fun _ => (0 : Int32))))] := hD
  refine lv_aload_n hx hb d_X_init_15 rfl (lv_at hl 0 rfl) ?_
  refine lv_aload_n hx hb d_X_init_16 rfl (lv_at hl 0 rfl) ?_
  refine va_get (T := F_X) (N := 4) (C := "ThreeModeJournal") hx hb hts F_X_ok.1 hown hK hP 0 rfl rfl 1 (by decide) (hts _ T_123) (fun _ h9 => h9) rfl d_X_init_17 ?_
  refine va_getN (T := F_Disk) (N := 3) (C := "ThreeModeJournal$Disk") hx hb hts F_Disk_ok.1 hown hK hP 1 rfl rfl 0 (by decide) (va_Nw.use rfl (hN _ N_80)) (fun _ h9 => h9) rfl d_X_init_20 ?_
  refine va_putF (T := F_X) (N := 4) (C := "ThreeModeJournal") hx hb hts F_X_ok.1 ty_X F_X_ok.2.1 F_X_ok.2.2 hown hK hP hD hS 0 rfl rfl 0 (by decide) (hts _ T_122) (fun _ h9 => h9) rfl hin rfl (F_X_ok.2.1 0 (by decide)) rfl rfl (Nat.le_of_ble_eq_true rfl) d_X_init_23 (fun H locs hP hD hS => ?_)
  have hP : va_P D tj_cls [(h0, .inr (0, [.ref q5_9, .ref q5, .null, .int 0])), (q5, .inr (2, [.ref q5_9, .ref q18_9, .ref q24_9])), (q5_9, .inr (1, [.int (1), .int (-1), .int (0)])), (q18_9, .inl (c18_9, 92, .inl (fun _ => (0 : Int32)))), (q24_9, .inr (3, [.ref q7_28_9, .ref q15_28_9, .ref q23_28_9, .ref q31_28_9, .ref q39_28_9, .int (0), .int (0), .int (0)])), (q7_28_9, .inl (c7_28_9, 96, .inl (fun _ => (0 : Int32)))), (q15_28_9, .inl (c15_28_9, 8, .inl (fun _ => (0 : Int32)))), (q23_28_9, .inl (c23_28_9, 8, .inl (fun _ => (0 : Int32)))), (q31_28_9, .inl (c31_28_9, 8, .inl (fun _ => (0 : Int32)))), (q39_28_9, .inl (c39_28_9, 8, .inl (fun _ => (0 : Int32))))] H := hP
  have hD : va_D A [(h0, .inr (0, [.ref q5_9, .ref q5, .null, .int 0])), (q5, .inr (2, [.ref q5_9, .ref q18_9, .ref q24_9])), (q5_9, .inr (1, [.int (1), .int (-1), .int (0)])), (q18_9, .inl (c18_9, 92, .inl (fun _ => (0 : Int32)))), (q24_9, .inr (3, [.ref q7_28_9, .ref q15_28_9, .ref q23_28_9, .ref q31_28_9, .ref q39_28_9, .int (0), .int (0), .int (0)])), (q7_28_9, .inl (c7_28_9, 96, .inl (fun _ => (0 : Int32)))), (q15_28_9, .inl (c15_28_9, 8, .inl (fun _ => (0 : Int32)))), (q23_28_9, .inl (c23_28_9, 8, .inl (fun _ => (0 : Int32)))), (q31_28_9, .inl (c31_28_9, 8, .inl (fun _ => (0 : Int32)))), (q39_28_9, .inl (c39_28_9, 8, .inl (fun _ => (0 : Int32))))] := hD
  refine lv_aload_n hx hb d_X_init_26 rfl (lv_at hl 0 rfl) ?_
  refine va_new (ci := 4) (fs := [.null, .null, .int 0, .int 0, .int 0, .int 0]) (C := "ThreeModeJournal$Memory") (T := F_Mem) (N := 6) hx hb hts F_Mem_ok.1 ty_Mem F_Mem_ok.2.1 hown (hts _ T_92) (hts _ T_93) (hts _ T_5) hK hP hD hS hA rfl (by decide +kernel) (Nat.le_of_ble_eq_true rfl) (Nat.le_of_ble_eq_true rfl) d_X_init_27 (fun q27 H hP hD hS => ?_)
  have hP : va_P D tj_cls [(h0, .inr (0, [.ref q5_9, .ref q5, .null, .int 0])), (q5, .inr (2, [.ref q5_9, .ref q18_9, .ref q24_9])), (q5_9, .inr (1, [.int (1), .int (-1), .int (0)])), (q18_9, .inl (c18_9, 92, .inl (fun _ => (0 : Int32)))), (q24_9, .inr (3, [.ref q7_28_9, .ref q15_28_9, .ref q23_28_9, .ref q31_28_9, .ref q39_28_9, .int (0), .int (0), .int (0)])), (q7_28_9, .inl (c7_28_9, 96, .inl (fun _ => (0 : Int32)))), (q15_28_9, .inl (c15_28_9, 8, .inl (fun _ => (0 : Int32)))), (q23_28_9, .inl (c23_28_9, 8, .inl (fun _ => (0 : Int32)))), (q31_28_9, .inl (c31_28_9, 8, .inl (fun _ => (0 : Int32)))), (q39_28_9, .inl (c39_28_9, 8, .inl (fun _ => (0 : Int32)))), (q27, .inr (4, [.null, .null, .int 0, .int 0, .int 0, .int 0]))] H := hP
  have hD : va_D A [(h0, .inr (0, [.ref q5_9, .ref q5, .null, .int 0])), (q5, .inr (2, [.ref q5_9, .ref q18_9, .ref q24_9])), (q5_9, .inr (1, [.int (1), .int (-1), .int (0)])), (q18_9, .inl (c18_9, 92, .inl (fun _ => (0 : Int32)))), (q24_9, .inr (3, [.ref q7_28_9, .ref q15_28_9, .ref q23_28_9, .ref q31_28_9, .ref q39_28_9, .int (0), .int (0), .int (0)])), (q7_28_9, .inl (c7_28_9, 96, .inl (fun _ => (0 : Int32)))), (q15_28_9, .inl (c15_28_9, 8, .inl (fun _ => (0 : Int32)))), (q23_28_9, .inl (c23_28_9, 8, .inl (fun _ => (0 : Int32)))), (q31_28_9, .inl (c31_28_9, 8, .inl (fun _ => (0 : Int32)))), (q39_28_9, .inl (c39_28_9, 8, .inl (fun _ => (0 : Int32)))), (q27, .inr (4, [.null, .null, .int 0, .int 0, .int 0, .int 0]))] := hD
  refine W.widen (k := 10) (n := 240) (Nat.le_refl _) (Nat.le_refl _) ?_
  refine lv_dup hx hb d_X_init_30 rfl ?_
  have hPc := hP.sub (ws' := [(q27, .inr (4, [.null, .null, .int 0, .int 0, .int 0, .int 0]))]) [10] rfl
  have hDc := hD.sub (ws' := [(q27, .inr (4, [.null, .null, .int 0, .int 0, .int 0, .int 0]))]) [10] (by decide) rfl
  have hKc := hK.sub (tys' := []) [] rfl
  have hFc := va_free (wc := [(q27, .inr (4, [.null, .null, .int 0, .int 0, .int 0, .int 0]))]) hD hS hA [10] rfl
  refine va_callv (va_runIN (As := []) (rest := [.ref q27, .ref h0]) ⟨hx, hb, hml, hown, hts⟩ (c_Mem_init l D q27 H.size) ⟨va_cnB 0 hts (tj_good tj_Tg T_96) rfl rfl rfl (hN _ N_94) (hts _ T_5) (by decide +kernel) ⟨Nat.le_of_ble_eq_true rfl, Nat.le_of_ble_eq_true rfl⟩, rfl, hts _ T_95⟩ ⟨tj_cblind, fun U hU hW => ⟨rfl, by rw [hU], by rw [hU]; exact hPc, va_K.moved hW.alike hKc, hDc.weaken (fun _ _ _ _ => trivial), tj_nwarm tj_Ng hW hN⟩⟩ rfl rfl hl.1 rfl (lv_room (Nat.le_of_ble_eq_true rfl)) d_X_init_31 ⟨Nat.le_of_ble_eq_true rfl, Nat.le_of_ble_eq_true rfl⟩) hS (fun q _ h => hFc q h) hFc (fun u t H1 locs ht hvm _ hB hz1 hk1 hS => ?_)
  obtain ⟨q7_31, q15_31, c7_31, c15_31, hP1, hK1, hD1⟩ := hB
  rw [ht] at hP1
  have hK1 := va_K.moved hvm.symm hK1
  obtain ⟨hP, hD⟩ := va_join (wr := [(h0, .inr (0, [.ref q5_9, .ref q5, .null, .int 0])), (q5, .inr (2, [.ref q5_9, .ref q18_9, .ref q24_9])), (q5_9, .inr (1, [.int (1), .int (-1), .int (0)])), (q18_9, .inl (c18_9, 92, .inl (fun _ => (0 : Int32)))), (q24_9, .inr (3, [.ref q7_28_9, .ref q15_28_9, .ref q23_28_9, .ref q31_28_9, .ref q39_28_9, .int (0), .int (0), .int (0)])), (q7_28_9, .inl (c7_28_9, 96, .inl (fun _ => (0 : Int32)))), (q15_28_9, .inl (c15_28_9, 8, .inl (fun _ => (0 : Int32)))), (q23_28_9, .inl (c23_28_9, 8, .inl (fun _ => (0 : Int32)))), (q31_28_9, .inl (c31_28_9, 8, .inl (fun _ => (0 : Int32)))), (q39_28_9, .inl (c39_28_9, 8, .inl (fun _ => (0 : Int32))))]) (w1 := [(q27, .inr (4, [.ref q7_31, .ref q15_31, .int (0), .int (0), .int (0), .int (0)])), (q7_31, .inl (c7_31, 92, .inl (fun _ => (0 : Int32)))), (q15_31, .inl (c15_31, 16, .inl (fun _ => (0 : Int32))))]) hP hD [10] [0, 1, 2, 3, 4, 5, 6, 7, 8, 9] rfl rfl (by decide) (by decide) hk1 hFc hP1 hD1
  have hK := hK.app hK1
  generalize H1 = H at hP hS ⊢
  have hP : va_P D tj_cls [(h0, .inr (0, [.ref q5_9, .ref q5, .null, .int 0])), (q5, .inr (2, [.ref q5_9, .ref q18_9, .ref q24_9])), (q5_9, .inr (1, [.int (1), .int (-1), .int (0)])), (q18_9, .inl (c18_9, 92, .inl (fun _ => (0 : Int32)))), (q24_9, .inr (3, [.ref q7_28_9, .ref q15_28_9, .ref q23_28_9, .ref q31_28_9, .ref q39_28_9, .int (0), .int (0), .int (0)])), (q7_28_9, .inl (c7_28_9, 96, .inl (fun _ => (0 : Int32)))), (q15_28_9, .inl (c15_28_9, 8, .inl (fun _ => (0 : Int32)))), (q23_28_9, .inl (c23_28_9, 8, .inl (fun _ => (0 : Int32)))), (q31_28_9, .inl (c31_28_9, 8, .inl (fun _ => (0 : Int32)))), (q39_28_9, .inl (c39_28_9, 8, .inl (fun _ => (0 : Int32)))), (q27, .inr (4, [.ref q7_31, .ref q15_31, .int (0), .int (0), .int (0), .int (0)])), (q7_31, .inl (c7_31, 92, .inl (fun _ => (0 : Int32)))), (q15_31, .inl (c15_31, 16, .inl (fun _ => (0 : Int32))))] H := hP
  have hD : va_D A [(h0, .inr (0, [.ref q5_9, .ref q5, .null, .int 0])), (q5, .inr (2, [.ref q5_9, .ref q18_9, .ref q24_9])), (q5_9, .inr (1, [.int (1), .int (-1), .int (0)])), (q18_9, .inl (c18_9, 92, .inl (fun _ => (0 : Int32)))), (q24_9, .inr (3, [.ref q7_28_9, .ref q15_28_9, .ref q23_28_9, .ref q31_28_9, .ref q39_28_9, .int (0), .int (0), .int (0)])), (q7_28_9, .inl (c7_28_9, 96, .inl (fun _ => (0 : Int32)))), (q15_28_9, .inl (c15_28_9, 8, .inl (fun _ => (0 : Int32)))), (q23_28_9, .inl (c23_28_9, 8, .inl (fun _ => (0 : Int32)))), (q31_28_9, .inl (c31_28_9, 8, .inl (fun _ => (0 : Int32)))), (q39_28_9, .inl (c39_28_9, 8, .inl (fun _ => (0 : Int32)))), (q27, .inr (4, [.ref q7_31, .ref q15_31, .int (0), .int (0), .int (0), .int (0)])), (q7_31, .inl (c7_31, 92, .inl (fun _ => (0 : Int32)))), (q15_31, .inl (c15_31, 16, .inl (fun _ => (0 : Int32))))] := hD
  have hK : va_K D tj_cls [(c18_9, .int), (c7_28_9, .int), (c15_28_9, .int), (c23_28_9, .int), (c31_28_9, .int), (c39_28_9, .int), (c7_31, .int), (c15_31, .int)] s := hK
  refine W.widen (k := 12) (n := 348) (Nat.le_refl _) (Nat.le_refl _) ?_
  refine va_putF (T := F_X) (N := 4) (C := "ThreeModeJournal") hx hb hts F_X_ok.1 ty_X F_X_ok.2.1 F_X_ok.2.2 hown hK hP hD hS 0 rfl rfl 2 (by decide) (hts _ T_124) (fun _ h9 => h9) rfl hin rfl (F_X_ok.2.1 2 (by decide)) rfl rfl (Nat.le_of_ble_eq_true rfl) d_X_init_34 (fun H locs hP hD hS => ?_)
  have hP : va_P D tj_cls [(h0, .inr (0, [.ref q5_9, .ref q5, .ref q27, .int 0])), (q5, .inr (2, [.ref q5_9, .ref q18_9, .ref q24_9])), (q5_9, .inr (1, [.int (1), .int (-1), .int (0)])), (q18_9, .inl (c18_9, 92, .inl (fun _ => (0 : Int32)))), (q24_9, .inr (3, [.ref q7_28_9, .ref q15_28_9, .ref q23_28_9, .ref q31_28_9, .ref q39_28_9, .int (0), .int (0), .int (0)])), (q7_28_9, .inl (c7_28_9, 96, .inl (fun _ => (0 : Int32)))), (q15_28_9, .inl (c15_28_9, 8, .inl (fun _ => (0 : Int32)))), (q23_28_9, .inl (c23_28_9, 8, .inl (fun _ => (0 : Int32)))), (q31_28_9, .inl (c31_28_9, 8, .inl (fun _ => (0 : Int32)))), (q39_28_9, .inl (c39_28_9, 8, .inl (fun _ => (0 : Int32)))), (q27, .inr (4, [.ref q7_31, .ref q15_31, .int (0), .int (0), .int (0), .int (0)])), (q7_31, .inl (c7_31, 92, .inl (fun _ => (0 : Int32)))), (q15_31, .inl (c15_31, 16, .inl (fun _ => (0 : Int32))))] H := hP
  have hD : va_D A [(h0, .inr (0, [.ref q5_9, .ref q5, .ref q27, .int 0])), (q5, .inr (2, [.ref q5_9, .ref q18_9, .ref q24_9])), (q5_9, .inr (1, [.int (1), .int (-1), .int (0)])), (q18_9, .inl (c18_9, 92, .inl (fun _ => (0 : Int32)))), (q24_9, .inr (3, [.ref q7_28_9, .ref q15_28_9, .ref q23_28_9, .ref q31_28_9, .ref q39_28_9, .int (0), .int (0), .int (0)])), (q7_28_9, .inl (c7_28_9, 96, .inl (fun _ => (0 : Int32)))), (q15_28_9, .inl (c15_28_9, 8, .inl (fun _ => (0 : Int32)))), (q23_28_9, .inl (c23_28_9, 8, .inl (fun _ => (0 : Int32)))), (q31_28_9, .inl (c31_28_9, 8, .inl (fun _ => (0 : Int32)))), (q39_28_9, .inl (c39_28_9, 8, .inl (fun _ => (0 : Int32)))), (q27, .inr (4, [.ref q7_31, .ref q15_31, .int (0), .int (0), .int (0), .int (0)])), (q7_31, .inl (c7_31, 92, .inl (fun _ => (0 : Int32)))), (q15_31, .inl (c15_31, 16, .inl (fun _ => (0 : Int32))))] := hD
  refine lv_aload_n hx hb d_X_init_37 rfl (lv_at hl 0 rfl) ?_
  refine lv_iconst (v := 1) hx hb d_X_init_38 (by decide) ?_
  refine va_put (T := F_X) (N := 4) (C := "ThreeModeJournal") hx hb hts F_X_ok.1 ty_X F_X_ok.2.1 F_X_ok.2.2 hown hK hP hD hS 0 rfl rfl 3 (by decide) (hts _ T_125) (fun _ h9 => h9) rfl (F_X_ok.2.1 3 (by decide)) rfl rfl (Nat.le_of_ble_eq_true rfl) d_X_init_39 (fun H locs hP hD hS => ?_)
  have hP : va_P D tj_cls [(h0, .inr (0, [.ref q5_9, .ref q5, .ref q27, .int (1)])), (q5, .inr (2, [.ref q5_9, .ref q18_9, .ref q24_9])), (q5_9, .inr (1, [.int (1), .int (-1), .int (0)])), (q18_9, .inl (c18_9, 92, .inl (fun _ => (0 : Int32)))), (q24_9, .inr (3, [.ref q7_28_9, .ref q15_28_9, .ref q23_28_9, .ref q31_28_9, .ref q39_28_9, .int (0), .int (0), .int (0)])), (q7_28_9, .inl (c7_28_9, 96, .inl (fun _ => (0 : Int32)))), (q15_28_9, .inl (c15_28_9, 8, .inl (fun _ => (0 : Int32)))), (q23_28_9, .inl (c23_28_9, 8, .inl (fun _ => (0 : Int32)))), (q31_28_9, .inl (c31_28_9, 8, .inl (fun _ => (0 : Int32)))), (q39_28_9, .inl (c39_28_9, 8, .inl (fun _ => (0 : Int32)))), (q27, .inr (4, [.ref q7_31, .ref q15_31, .int (0), .int (0), .int (0), .int (0)])), (q7_31, .inl (c7_31, 92, .inl (fun _ => (0 : Int32)))), (q15_31, .inl (c15_31, 16, .inl (fun _ => (0 : Int32))))] H := hP
  have hD : va_D A [(h0, .inr (0, [.ref q5_9, .ref q5, .ref q27, .int (1)])), (q5, .inr (2, [.ref q5_9, .ref q18_9, .ref q24_9])), (q5_9, .inr (1, [.int (1), .int (-1), .int (0)])), (q18_9, .inl (c18_9, 92, .inl (fun _ => (0 : Int32)))), (q24_9, .inr (3, [.ref q7_28_9, .ref q15_28_9, .ref q23_28_9, .ref q31_28_9, .ref q39_28_9, .int (0), .int (0), .int (0)])), (q7_28_9, .inl (c7_28_9, 96, .inl (fun _ => (0 : Int32)))), (q15_28_9, .inl (c15_28_9, 8, .inl (fun _ => (0 : Int32)))), (q23_28_9, .inl (c23_28_9, 8, .inl (fun _ => (0 : Int32)))), (q31_28_9, .inl (c31_28_9, 8, .inl (fun _ => (0 : Int32)))), (q39_28_9, .inl (c39_28_9, 8, .inl (fun _ => (0 : Int32)))), (q27, .inr (4, [.ref q7_31, .ref q15_31, .int (0), .int (0), .int (0), .int (0)])), (q7_31, .inl (c7_31, 92, .inl (fun _ => (0 : Int32)))), (q15_31, .inl (c15_31, 16, .inl (fun _ => (0 : Int32))))] := hD
  exact W.vret hx hb hr (fun t ht hW => ⟨⟨(), rfl, trivial, q5, q5_9, q18_9, q24_9, q7_28_9, q15_28_9, q23_28_9, q31_28_9, q39_28_9, q27, q7_31, q15_31, c18_9, c7_28_9, c15_28_9, c23_28_9, c31_28_9, c39_28_9, c7_31, c15_31, by rw [ht]; exact hP, va_K.moved hW.alike hK, hD⟩, hS.F ht⟩) hS.2.2 d_X_init_42
def at_Mod (D : va_G) (A : Nat → Prop) (h0 : Nat) (t : State) : Prop := ∃ (q7 q15 q23 q31 q39 q48 q57 q66 q74 : Nat) (c7 c15 c23 c31 c39 c48 c57 c66 c74 : ClassId), va_P D tj_cls [(h0, .inr (5, [.ref q7, .ref q15, .ref q23, .ref q31, .ref q39, .int 0, .ref q48, .ref q57, .ref q66, .ref q74, .int 0, .int 0, .int (1), .int (1), .int (-1), .int 0, .int 0])), (q7, .inl (c7, 92, .inl (fun _ => (0 : Int32)))), (q15, .inl (c15, 92, .inl (fun _ => (0 : Int32)))), (q23, .inl (c23, 23, .inl (fun _ => (0 : Int32)))), (q31, .inl (c31, 23, .inl (fun _ => (0 : Int32)))), (q39, .inl (c39, 16, .inl (fun _ => (0 : Int32)))), (q48, .inl (c48, 184, .inl (fun _ => (0 : Int32)))), (q57, .inl (c57, 184, .inl (fun _ => (0 : Int32)))), (q66, .inl (c66, 736, .inl (fun _ => (0 : Int32)))), (q74, .inl (c74, 8, .inl (fun _ => (0 : Int32))))] t.heap ∧ va_K D tj_cls [(c7, .int), (c15, .int), (c23, .boolean), (c31, .boolean), (c39, .int), (c48, .boolean), (c57, .boolean), (c66, .int), (c74, .int)] t ∧ va_D A [(h0, .inr (5, [.ref q7, .ref q15, .ref q23, .ref q31, .ref q39, .int 0, .ref q48, .ref q57, .ref q66, .ref q74, .int 0, .int 0, .int (1), .int (1), .int (-1), .int 0, .int 0])), (q7, .inl (c7, 92, .inl (fun _ => (0 : Int32)))), (q15, .inl (c15, 92, .inl (fun _ => (0 : Int32)))), (q23, .inl (c23, 23, .inl (fun _ => (0 : Int32)))), (q31, .inl (c31, 23, .inl (fun _ => (0 : Int32)))), (q39, .inl (c39, 16, .inl (fun _ => (0 : Int32)))), (q48, .inl (c48, 184, .inl (fun _ => (0 : Int32)))), (q57, .inl (c57, 184, .inl (fun _ => (0 : Int32)))), (q66, .inl (c66, 736, .inl (fun _ => (0 : Int32)))), (q74, .inl (c74, 8, .inl (fun _ => (0 : Int32))))]
set_option maxRecDepth 100000 in
set_option maxHeartbeats 4000000 in
theorem c_Mod_init (l : Launch) (D : va_G) (h0 sz : Nat) : Met l y_Mod_init (Cond.code y_Mod_init b_Mod_init 1 none :: tj_T) { frames := 1, cells := 9, slots := 1358, locals := 12 } (va_Pc [.ref h0] (fun U => U.heap.size = sz ∧ va_P D tj_cls [(h0, .inr (5, [.null, .null, .null, .null, .null, .int 0, .null, .null, .null, .null, .int 0, .int 0, .int 0, .int 0, .int 0, .int 0, .int 0]))] U.heap ∧ va_K D tj_cls [] U ∧ va_D (fun _ => True) [(h0, .inr (5, [.null, .null, .null, .null, .null, .int 0, .null, .null, .null, .null, .int 0, .int 0, .int 0, .int 0, .int 0, .int 0, .int 0]))] ∧ ∀ w ∈ tj_N, va_Nw w U)) (va_Qv (fun _ : Unit => True) (fun _ t => at_Mod D (va_A [(h0, .inr (5, [.null, .null, .null, .null, .null, .int 0, .null, .null, .null, .null, .int 0, .int 0, .int 0, .int 0, .int 0, .int 0, .int 0]))] sz) h0 t) (va_A [(h0, .inr (5, [.null, .null, .null, .null, .null, .int 0, .null, .null, .null, .null, .int 0, .int 0, .int 0, .int 0, .int 0, .int 0, .int 0]))] sz)) 9 1358 (va_A [(h0, .inr (5, [.null, .null, .null, .null, .null, .int 0, .null, .null, .null, .null, .int 0, .int 0, .int 0, .int 0, .int 0, .int 0, .int 0]))] sz) := by
  refine Met.ofW (cc := b_Mod_init) (maxL := 1) (ret := none) (by decide) rfl ?_
  intro p e s m args below meth c s₁ B hml hv
  obtain ⟨rfl, hsz, hP, hK, hD0, hN⟩ := hv
  have hx := B.exec
  have hb := B.bytes
  have hr := B.returns
  have hts0 := atoms_spec (ws := Cond.code y_Mod_init b_Mod_init 1 none :: tj_T) B.pre
  have hts : ∀ w ∈ tj_T, w.before ([Value.ref h0] : List Value).toArray s = true := fun w hw => hts0 w (List.mem_cons_of_mem _ hw)
  have hown : s.vm.findClass "ThreeModeJournalModel" = some m.cls := findClass_of_methodNamed B.named
  have hlocks := B.notSynchronized
  have hin : meth.name = "<init>" := (name_of_methodNamed B.named B.method).1
  subst hsz
  have hD := hD0.self (sz := s.heap.size)
  generalize hAe : va_A [(h0, .inr (5, [.null, .null, .null, .null, .null, .int 0, .null, .null, .null, .null, .int 0, .int 0, .int 0, .int 0, .int 0, .int 0, .int 0]))] s.heap.size = A at hD ⊢
  have hA : ∀ q : Nat, s.heap.size ≤ q → A q := fun q h => by rw [← hAe]; exact Or.inr h
  have hS : va_S A s.heap s.heap [] := va_S.rf
  have hP : va_P D tj_cls [(h0, .inr (5, [.null, .null, .null, .null, .null, .int 0, .null, .null, .null, .null, .int 0, .int 0, .int 0, .int 0, .int 0, .int 0, .int 0]))] s.heap := hP
  have hl := lv_entry ([.ref h0]) (n := 1) (Nat.le_of_ble_eq_true rfl)
  rw [lg_entry_eq]
  generalize (lg_sl ([.ref h0]) ++ List.replicate (1 - (lg_sl ([.ref h0])).length) Slot.unset).toArray = ls at hl ⊢
  have hl : lv_has ls 1 [(0, .ref h0)] := hl
  refine lv_aload_n hx hb d_Mod_init_0 rfl (lv_at hl 0 rfl) ?_
  refine W.objInit hx hb hown (hts _ T_472) (hts _ T_16) (hts _ T_17) rfl (by rw [hml]; exact hl.1) rfl d_Mod_init_1 (Nat.le_of_ble_eq_true rfl) (Nat.le_of_ble_eq_true rfl) ?_
  refine W.eq (g2 := F0 m 4 ls []) rfl ?_
  refine lv_aload_n hx hb d_Mod_init_4 rfl (lv_at hl 0 rfl) ?_
  refine lv_bipush (v := 92) hx hb d_Mod_init_5 (by decide) ?_
  refine va_newa (atype := .int) (ty := .int) (N' := 92) (a0 := (92, .inl (fun _ => (0 : Int32)))) hx hb (hts _ T_78) rfl hK hP hD hS hA (fun _ => rfl) (by decide) (by decide) (by decide) (Nat.le_of_ble_eq_true rfl) (Nat.le_of_ble_eq_true rfl) d_Mod_init_7 (fun q7 c7 H hK hP hD hS => ?_)
  have hP : va_P D tj_cls [(h0, .inr (5, [.null, .null, .null, .null, .null, .int 0, .null, .null, .null, .null, .int 0, .int 0, .int 0, .int 0, .int 0, .int 0, .int 0])), (q7, .inl (c7, 92, .inl (fun _ => (0 : Int32))))] H := hP
  have hD : va_D A [(h0, .inr (5, [.null, .null, .null, .null, .null, .int 0, .null, .null, .null, .null, .int 0, .int 0, .int 0, .int 0, .int 0, .int 0, .int 0])), (q7, .inl (c7, 92, .inl (fun _ => (0 : Int32))))] := hD
  have hK : va_K D tj_cls [(c7, .int)] s := hK
  refine W.widen (k := 1) (n := 92) (Nat.le_refl _) (Nat.le_refl _) ?_
  refine va_putF (T := F_Mod) (N := 17) (C := "ThreeModeJournalModel") hx hb hts F_Mod_ok.1 ty_Mod F_Mod_ok.2.1 F_Mod_ok.2.2 hown hK hP hD hS 0 rfl rfl 0 (by decide) (hts _ T_473) (fun _ h9 => h9) rfl hin rfl (F_Mod_ok.2.1 0 (by decide)) rfl rfl (Nat.le_of_ble_eq_true rfl) d_Mod_init_9 (fun H locs hP hD hS => ?_)
  have hP : va_P D tj_cls [(h0, .inr (5, [.ref q7, .null, .null, .null, .null, .int 0, .null, .null, .null, .null, .int 0, .int 0, .int 0, .int 0, .int 0, .int 0, .int 0])), (q7, .inl (c7, 92, .inl (fun _ => (0 : Int32))))] H := hP
  have hD : va_D A [(h0, .inr (5, [.ref q7, .null, .null, .null, .null, .int 0, .null, .null, .null, .null, .int 0, .int 0, .int 0, .int 0, .int 0, .int 0, .int 0])), (q7, .inl (c7, 92, .inl (fun _ => (0 : Int32))))] := hD
  refine lv_aload_n hx hb d_Mod_init_12 rfl (lv_at hl 0 rfl) ?_
  refine lv_bipush (v := 92) hx hb d_Mod_init_13 (by decide) ?_
  refine va_newa (atype := .int) (ty := .int) (N' := 92) (a0 := (92, .inl (fun _ => (0 : Int32)))) hx hb (hts _ T_78) rfl hK hP hD hS hA (fun _ => rfl) (by decide) (by decide) (by decide) (Nat.le_of_ble_eq_true rfl) (Nat.le_of_ble_eq_true rfl) d_Mod_init_15 (fun q15 c15 H hK hP hD hS => ?_)
  have hP : va_P D tj_cls [(h0, .inr (5, [.ref q7, .null, .null, .null, .null, .int 0, .null, .null, .null, .null, .int 0, .int 0, .int 0, .int 0, .int 0, .int 0, .int 0])), (q7, .inl (c7, 92, .inl (fun _ => (0 : Int32)))), (q15, .inl (c15, 92, .inl (fun _ => (0 : Int32))))] H := hP
  have hD : va_D A [(h0, .inr (5, [.ref q7, .null, .null, .null, .null, .int 0, .null, .null, .null, .null, .int 0, .int 0, .int 0, .int 0, .int 0, .int 0, .int 0])), (q7, .inl (c7, 92, .inl (fun _ => (0 : Int32)))), (q15, .inl (c15, 92, .inl (fun _ => (0 : Int32))))] := hD
  have hK : va_K D tj_cls [(c7, .int), (c15, .int)] s := hK
  refine W.widen (k := 2) (n := 184) (Nat.le_refl _) (Nat.le_refl _) ?_
  refine va_putF (T := F_Mod) (N := 17) (C := "ThreeModeJournalModel") hx hb hts F_Mod_ok.1 ty_Mod F_Mod_ok.2.1 F_Mod_ok.2.2 hown hK hP hD hS 0 rfl rfl 1 (by decide) (hts _ T_474) (fun _ h9 => h9) rfl hin rfl (F_Mod_ok.2.1 1 (by decide)) rfl rfl (Nat.le_of_ble_eq_true rfl) d_Mod_init_17 (fun H locs hP hD hS => ?_)
  have hP : va_P D tj_cls [(h0, .inr (5, [.ref q7, .ref q15, .null, .null, .null, .int 0, .null, .null, .null, .null, .int 0, .int 0, .int 0, .int 0, .int 0, .int 0, .int 0])), (q7, .inl (c7, 92, .inl (fun _ => (0 : Int32)))), (q15, .inl (c15, 92, .inl (fun _ => (0 : Int32))))] H := hP
  have hD : va_D A [(h0, .inr (5, [.ref q7, .ref q15, .null, .null, .null, .int 0, .null, .null, .null, .null, .int 0, .int 0, .int 0, .int 0, .int 0, .int 0, .int 0])), (q7, .inl (c7, 92, .inl (fun _ => (0 : Int32)))), (q15, .inl (c15, 92, .inl (fun _ => (0 : Int32))))] := hD
  refine lv_aload_n hx hb d_Mod_init_20 rfl (lv_at hl 0 rfl) ?_
  refine lv_bipush (v := 23) hx hb d_Mod_init_21 (by decide) ?_
  refine va_newa (atype := .boolean) (ty := .boolean) (N' := 23) (a0 := (23, .inl (fun _ => (0 : Int32)))) hx hb (hts _ T_525) rfl hK hP hD hS hA (fun _ => rfl) (by decide) (by decide) (by decide) (Nat.le_of_ble_eq_true rfl) (Nat.le_of_ble_eq_true rfl) d_Mod_init_23 (fun q23 c23 H hK hP hD hS => ?_)
  have hP : va_P D tj_cls [(h0, .inr (5, [.ref q7, .ref q15, .null, .null, .null, .int 0, .null, .null, .null, .null, .int 0, .int 0, .int 0, .int 0, .int 0, .int 0, .int 0])), (q7, .inl (c7, 92, .inl (fun _ => (0 : Int32)))), (q15, .inl (c15, 92, .inl (fun _ => (0 : Int32)))), (q23, .inl (c23, 23, .inl (fun _ => (0 : Int32))))] H := hP
  have hD : va_D A [(h0, .inr (5, [.ref q7, .ref q15, .null, .null, .null, .int 0, .null, .null, .null, .null, .int 0, .int 0, .int 0, .int 0, .int 0, .int 0, .int 0])), (q7, .inl (c7, 92, .inl (fun _ => (0 : Int32)))), (q15, .inl (c15, 92, .inl (fun _ => (0 : Int32)))), (q23, .inl (c23, 23, .inl (fun _ => (0 : Int32))))] := hD
  have hK : va_K D tj_cls [(c7, .int), (c15, .int), (c23, .boolean)] s := hK
  refine W.widen (k := 3) (n := 207) (Nat.le_refl _) (Nat.le_refl _) ?_
  refine va_putF (T := F_Mod) (N := 17) (C := "ThreeModeJournalModel") hx hb hts F_Mod_ok.1 ty_Mod F_Mod_ok.2.1 F_Mod_ok.2.2 hown hK hP hD hS 0 rfl rfl 2 (by decide) (hts _ T_475) (fun _ h9 => h9) rfl hin rfl (F_Mod_ok.2.1 2 (by decide)) rfl rfl (Nat.le_of_ble_eq_true rfl) d_Mod_init_25 (fun H locs hP hD hS => ?_)
  have hP : va_P D tj_cls [(h0, .inr (5, [.ref q7, .ref q15, .ref q23, .null, .null, .int 0, .null, .null, .null, .null, .int 0, .int 0, .int 0, .int 0, .int 0, .int 0, .int 0])), (q7, .inl (c7, 92, .inl (fun _ => (0 : Int32)))), (q15, .inl (c15, 92, .inl (fun _ => (0 : Int32)))), (q23, .inl (c23, 23, .inl (fun _ => (0 : Int32))))] H := hP
  have hD : va_D A [(h0, .inr (5, [.ref q7, .ref q15, .ref q23, .null, .null, .int 0, .null, .null, .null, .null, .int 0, .int 0, .int 0, .int 0, .int 0, .int 0, .int 0])), (q7, .inl (c7, 92, .inl (fun _ => (0 : Int32)))), (q15, .inl (c15, 92, .inl (fun _ => (0 : Int32)))), (q23, .inl (c23, 23, .inl (fun _ => (0 : Int32))))] := hD
  refine lv_aload_n hx hb d_Mod_init_28 rfl (lv_at hl 0 rfl) ?_
  refine lv_bipush (v := 23) hx hb d_Mod_init_29 (by decide) ?_
  refine va_newa (atype := .boolean) (ty := .boolean) (N' := 23) (a0 := (23, .inl (fun _ => (0 : Int32)))) hx hb (hts _ T_525) rfl hK hP hD hS hA (fun _ => rfl) (by decide) (by decide) (by decide) (Nat.le_of_ble_eq_true rfl) (Nat.le_of_ble_eq_true rfl) d_Mod_init_31 (fun q31 c31 H hK hP hD hS => ?_)
  have hP : va_P D tj_cls [(h0, .inr (5, [.ref q7, .ref q15, .ref q23, .null, .null, .int 0, .null, .null, .null, .null, .int 0, .int 0, .int 0, .int 0, .int 0, .int 0, .int 0])), (q7, .inl (c7, 92, .inl (fun _ => (0 : Int32)))), (q15, .inl (c15, 92, .inl (fun _ => (0 : Int32)))), (q23, .inl (c23, 23, .inl (fun _ => (0 : Int32)))), (q31, .inl (c31, 23, .inl (fun _ => (0 : Int32))))] H := hP
  have hD : va_D A [(h0, .inr (5, [.ref q7, .ref q15, .ref q23, .null, .null, .int 0, .null, .null, .null, .null, .int 0, .int 0, .int 0, .int 0, .int 0, .int 0, .int 0])), (q7, .inl (c7, 92, .inl (fun _ => (0 : Int32)))), (q15, .inl (c15, 92, .inl (fun _ => (0 : Int32)))), (q23, .inl (c23, 23, .inl (fun _ => (0 : Int32)))), (q31, .inl (c31, 23, .inl (fun _ => (0 : Int32))))] := hD
  have hK : va_K D tj_cls [(c7, .int), (c15, .int), (c23, .boolean), (c31, .boolean)] s := hK
  refine W.widen (k := 4) (n := 230) (Nat.le_refl _) (Nat.le_refl _) ?_
  refine va_putF (T := F_Mod) (N := 17) (C := "ThreeModeJournalModel") hx hb hts F_Mod_ok.1 ty_Mod F_Mod_ok.2.1 F_Mod_ok.2.2 hown hK hP hD hS 0 rfl rfl 3 (by decide) (hts _ T_476) (fun _ h9 => h9) rfl hin rfl (F_Mod_ok.2.1 3 (by decide)) rfl rfl (Nat.le_of_ble_eq_true rfl) d_Mod_init_33 (fun H locs hP hD hS => ?_)
  have hP : va_P D tj_cls [(h0, .inr (5, [.ref q7, .ref q15, .ref q23, .ref q31, .null, .int 0, .null, .null, .null, .null, .int 0, .int 0, .int 0, .int 0, .int 0, .int 0, .int 0])), (q7, .inl (c7, 92, .inl (fun _ => (0 : Int32)))), (q15, .inl (c15, 92, .inl (fun _ => (0 : Int32)))), (q23, .inl (c23, 23, .inl (fun _ => (0 : Int32)))), (q31, .inl (c31, 23, .inl (fun _ => (0 : Int32))))] H := hP
  have hD : va_D A [(h0, .inr (5, [.ref q7, .ref q15, .ref q23, .ref q31, .null, .int 0, .null, .null, .null, .null, .int 0, .int 0, .int 0, .int 0, .int 0, .int 0, .int 0])), (q7, .inl (c7, 92, .inl (fun _ => (0 : Int32)))), (q15, .inl (c15, 92, .inl (fun _ => (0 : Int32)))), (q23, .inl (c23, 23, .inl (fun _ => (0 : Int32)))), (q31, .inl (c31, 23, .inl (fun _ => (0 : Int32))))] := hD
  refine lv_aload_n hx hb d_Mod_init_36 rfl (lv_at hl 0 rfl) ?_
  refine lv_bipush (v := 16) hx hb d_Mod_init_37 (by decide) ?_
  refine va_newa (atype := .int) (ty := .int) (N' := 16) (a0 := (16, .inl (fun _ => (0 : Int32)))) hx hb (hts _ T_78) rfl hK hP hD hS hA (fun _ => rfl) (by decide) (by decide) (by decide) (Nat.le_of_ble_eq_true rfl) (Nat.le_of_ble_eq_true rfl) d_Mod_init_39 (fun q39 c39 H hK hP hD hS => ?_)
  have hP : va_P D tj_cls [(h0, .inr (5, [.ref q7, .ref q15, .ref q23, .ref q31, .null, .int 0, .null, .null, .null, .null, .int 0, .int 0, .int 0, .int 0, .int 0, .int 0, .int 0])), (q7, .inl (c7, 92, .inl (fun _ => (0 : Int32)))), (q15, .inl (c15, 92, .inl (fun _ => (0 : Int32)))), (q23, .inl (c23, 23, .inl (fun _ => (0 : Int32)))), (q31, .inl (c31, 23, .inl (fun _ => (0 : Int32)))), (q39, .inl (c39, 16, .inl (fun _ => (0 : Int32))))] H := hP
  have hD : va_D A [(h0, .inr (5, [.ref q7, .ref q15, .ref q23, .ref q31, .null, .int 0, .null, .null, .null, .null, .int 0, .int 0, .int 0, .int 0, .int 0, .int 0, .int 0])), (q7, .inl (c7, 92, .inl (fun _ => (0 : Int32)))), (q15, .inl (c15, 92, .inl (fun _ => (0 : Int32)))), (q23, .inl (c23, 23, .inl (fun _ => (0 : Int32)))), (q31, .inl (c31, 23, .inl (fun _ => (0 : Int32)))), (q39, .inl (c39, 16, .inl (fun _ => (0 : Int32))))] := hD
  have hK : va_K D tj_cls [(c7, .int), (c15, .int), (c23, .boolean), (c31, .boolean), (c39, .int)] s := hK
  refine W.widen (k := 5) (n := 246) (Nat.le_refl _) (Nat.le_refl _) ?_
  refine va_putF (T := F_Mod) (N := 17) (C := "ThreeModeJournalModel") hx hb hts F_Mod_ok.1 ty_Mod F_Mod_ok.2.1 F_Mod_ok.2.2 hown hK hP hD hS 0 rfl rfl 4 (by decide) (hts _ T_477) (fun _ h9 => h9) rfl hin rfl (F_Mod_ok.2.1 4 (by decide)) rfl rfl (Nat.le_of_ble_eq_true rfl) d_Mod_init_41 (fun H locs hP hD hS => ?_)
  have hP : va_P D tj_cls [(h0, .inr (5, [.ref q7, .ref q15, .ref q23, .ref q31, .ref q39, .int 0, .null, .null, .null, .null, .int 0, .int 0, .int 0, .int 0, .int 0, .int 0, .int 0])), (q7, .inl (c7, 92, .inl (fun _ => (0 : Int32)))), (q15, .inl (c15, 92, .inl (fun _ => (0 : Int32)))), (q23, .inl (c23, 23, .inl (fun _ => (0 : Int32)))), (q31, .inl (c31, 23, .inl (fun _ => (0 : Int32)))), (q39, .inl (c39, 16, .inl (fun _ => (0 : Int32))))] H := hP
  have hD : va_D A [(h0, .inr (5, [.ref q7, .ref q15, .ref q23, .ref q31, .ref q39, .int 0, .null, .null, .null, .null, .int 0, .int 0, .int 0, .int 0, .int 0, .int 0, .int 0])), (q7, .inl (c7, 92, .inl (fun _ => (0 : Int32)))), (q15, .inl (c15, 92, .inl (fun _ => (0 : Int32)))), (q23, .inl (c23, 23, .inl (fun _ => (0 : Int32)))), (q31, .inl (c31, 23, .inl (fun _ => (0 : Int32)))), (q39, .inl (c39, 16, .inl (fun _ => (0 : Int32))))] := hD
  refine lv_aload_n hx hb d_Mod_init_44 rfl (lv_at hl 0 rfl) ?_
  refine lv_sipush (v := 184) hx hb d_Mod_init_45 (by decide) ?_
  refine va_newa (atype := .boolean) (ty := .boolean) (N' := 184) (a0 := (184, .inl (fun _ => (0 : Int32)))) hx hb (hts _ T_525) rfl hK hP hD hS hA (fun _ => rfl) (by decide) (by decide) (by decide) (Nat.le_of_ble_eq_true rfl) (Nat.le_of_ble_eq_true rfl) d_Mod_init_48 (fun q48 c48 H hK hP hD hS => ?_)
  have hP : va_P D tj_cls [(h0, .inr (5, [.ref q7, .ref q15, .ref q23, .ref q31, .ref q39, .int 0, .null, .null, .null, .null, .int 0, .int 0, .int 0, .int 0, .int 0, .int 0, .int 0])), (q7, .inl (c7, 92, .inl (fun _ => (0 : Int32)))), (q15, .inl (c15, 92, .inl (fun _ => (0 : Int32)))), (q23, .inl (c23, 23, .inl (fun _ => (0 : Int32)))), (q31, .inl (c31, 23, .inl (fun _ => (0 : Int32)))), (q39, .inl (c39, 16, .inl (fun _ => (0 : Int32)))), (q48, .inl (c48, 184, .inl (fun _ => (0 : Int32))))] H := hP
  have hD : va_D A [(h0, .inr (5, [.ref q7, .ref q15, .ref q23, .ref q31, .ref q39, .int 0, .null, .null, .null, .null, .int 0, .int 0, .int 0, .int 0, .int 0, .int 0, .int 0])), (q7, .inl (c7, 92, .inl (fun _ => (0 : Int32)))), (q15, .inl (c15, 92, .inl (fun _ => (0 : Int32)))), (q23, .inl (c23, 23, .inl (fun _ => (0 : Int32)))), (q31, .inl (c31, 23, .inl (fun _ => (0 : Int32)))), (q39, .inl (c39, 16, .inl (fun _ => (0 : Int32)))), (q48, .inl (c48, 184, .inl (fun _ => (0 : Int32))))] := hD
  have hK : va_K D tj_cls [(c7, .int), (c15, .int), (c23, .boolean), (c31, .boolean), (c39, .int), (c48, .boolean)] s := hK
  refine W.widen (k := 6) (n := 430) (Nat.le_refl _) (Nat.le_refl _) ?_
  refine va_putF (T := F_Mod) (N := 17) (C := "ThreeModeJournalModel") hx hb hts F_Mod_ok.1 ty_Mod F_Mod_ok.2.1 F_Mod_ok.2.2 hown hK hP hD hS 0 rfl rfl 6 (by decide) (hts _ T_479) (fun _ h9 => h9) rfl hin rfl (F_Mod_ok.2.1 6 (by decide)) rfl rfl (Nat.le_of_ble_eq_true rfl) d_Mod_init_50 (fun H locs hP hD hS => ?_)
  have hP : va_P D tj_cls [(h0, .inr (5, [.ref q7, .ref q15, .ref q23, .ref q31, .ref q39, .int 0, .ref q48, .null, .null, .null, .int 0, .int 0, .int 0, .int 0, .int 0, .int 0, .int 0])), (q7, .inl (c7, 92, .inl (fun _ => (0 : Int32)))), (q15, .inl (c15, 92, .inl (fun _ => (0 : Int32)))), (q23, .inl (c23, 23, .inl (fun _ => (0 : Int32)))), (q31, .inl (c31, 23, .inl (fun _ => (0 : Int32)))), (q39, .inl (c39, 16, .inl (fun _ => (0 : Int32)))), (q48, .inl (c48, 184, .inl (fun _ => (0 : Int32))))] H := hP
  have hD : va_D A [(h0, .inr (5, [.ref q7, .ref q15, .ref q23, .ref q31, .ref q39, .int 0, .ref q48, .null, .null, .null, .int 0, .int 0, .int 0, .int 0, .int 0, .int 0, .int 0])), (q7, .inl (c7, 92, .inl (fun _ => (0 : Int32)))), (q15, .inl (c15, 92, .inl (fun _ => (0 : Int32)))), (q23, .inl (c23, 23, .inl (fun _ => (0 : Int32)))), (q31, .inl (c31, 23, .inl (fun _ => (0 : Int32)))), (q39, .inl (c39, 16, .inl (fun _ => (0 : Int32)))), (q48, .inl (c48, 184, .inl (fun _ => (0 : Int32))))] := hD
  refine lv_aload_n hx hb d_Mod_init_53 rfl (lv_at hl 0 rfl) ?_
  refine lv_sipush (v := 184) hx hb d_Mod_init_54 (by decide) ?_
  refine va_newa (atype := .boolean) (ty := .boolean) (N' := 184) (a0 := (184, .inl (fun _ => (0 : Int32)))) hx hb (hts _ T_525) rfl hK hP hD hS hA (fun _ => rfl) (by decide) (by decide) (by decide) (Nat.le_of_ble_eq_true rfl) (Nat.le_of_ble_eq_true rfl) d_Mod_init_57 (fun q57 c57 H hK hP hD hS => ?_)
  have hP : va_P D tj_cls [(h0, .inr (5, [.ref q7, .ref q15, .ref q23, .ref q31, .ref q39, .int 0, .ref q48, .null, .null, .null, .int 0, .int 0, .int 0, .int 0, .int 0, .int 0, .int 0])), (q7, .inl (c7, 92, .inl (fun _ => (0 : Int32)))), (q15, .inl (c15, 92, .inl (fun _ => (0 : Int32)))), (q23, .inl (c23, 23, .inl (fun _ => (0 : Int32)))), (q31, .inl (c31, 23, .inl (fun _ => (0 : Int32)))), (q39, .inl (c39, 16, .inl (fun _ => (0 : Int32)))), (q48, .inl (c48, 184, .inl (fun _ => (0 : Int32)))), (q57, .inl (c57, 184, .inl (fun _ => (0 : Int32))))] H := hP
  have hD : va_D A [(h0, .inr (5, [.ref q7, .ref q15, .ref q23, .ref q31, .ref q39, .int 0, .ref q48, .null, .null, .null, .int 0, .int 0, .int 0, .int 0, .int 0, .int 0, .int 0])), (q7, .inl (c7, 92, .inl (fun _ => (0 : Int32)))), (q15, .inl (c15, 92, .inl (fun _ => (0 : Int32)))), (q23, .inl (c23, 23, .inl (fun _ => (0 : Int32)))), (q31, .inl (c31, 23, .inl (fun _ => (0 : Int32)))), (q39, .inl (c39, 16, .inl (fun _ => (0 : Int32)))), (q48, .inl (c48, 184, .inl (fun _ => (0 : Int32)))), (q57, .inl (c57, 184, .inl (fun _ => (0 : Int32))))] := hD
  have hK : va_K D tj_cls [(c7, .int), (c15, .int), (c23, .boolean), (c31, .boolean), (c39, .int), (c48, .boolean), (c57, .boolean)] s := hK
  refine W.widen (k := 7) (n := 614) (Nat.le_refl _) (Nat.le_refl _) ?_
  refine va_putF (T := F_Mod) (N := 17) (C := "ThreeModeJournalModel") hx hb hts F_Mod_ok.1 ty_Mod F_Mod_ok.2.1 F_Mod_ok.2.2 hown hK hP hD hS 0 rfl rfl 7 (by decide) (hts _ T_480) (fun _ h9 => h9) rfl hin rfl (F_Mod_ok.2.1 7 (by decide)) rfl rfl (Nat.le_of_ble_eq_true rfl) d_Mod_init_59 (fun H locs hP hD hS => ?_)
  have hP : va_P D tj_cls [(h0, .inr (5, [.ref q7, .ref q15, .ref q23, .ref q31, .ref q39, .int 0, .ref q48, .ref q57, .null, .null, .int 0, .int 0, .int 0, .int 0, .int 0, .int 0, .int 0])), (q7, .inl (c7, 92, .inl (fun _ => (0 : Int32)))), (q15, .inl (c15, 92, .inl (fun _ => (0 : Int32)))), (q23, .inl (c23, 23, .inl (fun _ => (0 : Int32)))), (q31, .inl (c31, 23, .inl (fun _ => (0 : Int32)))), (q39, .inl (c39, 16, .inl (fun _ => (0 : Int32)))), (q48, .inl (c48, 184, .inl (fun _ => (0 : Int32)))), (q57, .inl (c57, 184, .inl (fun _ => (0 : Int32))))] H := hP
  have hD : va_D A [(h0, .inr (5, [.ref q7, .ref q15, .ref q23, .ref q31, .ref q39, .int 0, .ref q48, .ref q57, .null, .null, .int 0, .int 0, .int 0, .int 0, .int 0, .int 0, .int 0])), (q7, .inl (c7, 92, .inl (fun _ => (0 : Int32)))), (q15, .inl (c15, 92, .inl (fun _ => (0 : Int32)))), (q23, .inl (c23, 23, .inl (fun _ => (0 : Int32)))), (q31, .inl (c31, 23, .inl (fun _ => (0 : Int32)))), (q39, .inl (c39, 16, .inl (fun _ => (0 : Int32)))), (q48, .inl (c48, 184, .inl (fun _ => (0 : Int32)))), (q57, .inl (c57, 184, .inl (fun _ => (0 : Int32))))] := hD
  refine lv_aload_n hx hb d_Mod_init_62 rfl (lv_at hl 0 rfl) ?_
  refine lv_sipush (v := 736) hx hb d_Mod_init_63 (by decide) ?_
  refine va_newa (atype := .int) (ty := .int) (N' := 736) (a0 := (736, .inl (fun _ => (0 : Int32)))) hx hb (hts _ T_78) rfl hK hP hD hS hA (fun _ => rfl) (by decide) (by decide) (by decide) (Nat.le_of_ble_eq_true rfl) (Nat.le_of_ble_eq_true rfl) d_Mod_init_66 (fun q66 c66 H hK hP hD hS => ?_)
  have hP : va_P D tj_cls [(h0, .inr (5, [.ref q7, .ref q15, .ref q23, .ref q31, .ref q39, .int 0, .ref q48, .ref q57, .null, .null, .int 0, .int 0, .int 0, .int 0, .int 0, .int 0, .int 0])), (q7, .inl (c7, 92, .inl (fun _ => (0 : Int32)))), (q15, .inl (c15, 92, .inl (fun _ => (0 : Int32)))), (q23, .inl (c23, 23, .inl (fun _ => (0 : Int32)))), (q31, .inl (c31, 23, .inl (fun _ => (0 : Int32)))), (q39, .inl (c39, 16, .inl (fun _ => (0 : Int32)))), (q48, .inl (c48, 184, .inl (fun _ => (0 : Int32)))), (q57, .inl (c57, 184, .inl (fun _ => (0 : Int32)))), (q66, .inl (c66, 736, .inl (fun _ => (0 : Int32))))] H := hP
  have hD : va_D A [(h0, .inr (5, [.ref q7, .ref q15, .ref q23, .ref q31, .ref q39, .int 0, .ref q48, .ref q57, .null, .null, .int 0, .int 0, .int 0, .int 0, .int 0, .int 0, .int 0])), (q7, .inl (c7, 92, .inl (fun _ => (0 : Int32)))), (q15, .inl (c15, 92, .inl (fun _ => (0 : Int32)))), (q23, .inl (c23, 23, .inl (fun _ => (0 : Int32)))), (q31, .inl (c31, 23, .inl (fun _ => (0 : Int32)))), (q39, .inl (c39, 16, .inl (fun _ => (0 : Int32)))), (q48, .inl (c48, 184, .inl (fun _ => (0 : Int32)))), (q57, .inl (c57, 184, .inl (fun _ => (0 : Int32)))), (q66, .inl (c66, 736, .inl (fun _ => (0 : Int32))))] := hD
  have hK : va_K D tj_cls [(c7, .int), (c15, .int), (c23, .boolean), (c31, .boolean), (c39, .int), (c48, .boolean), (c57, .boolean), (c66, .int)] s := hK
  refine W.widen (k := 8) (n := 1350) (Nat.le_refl _) (Nat.le_refl _) ?_
  refine va_putF (T := F_Mod) (N := 17) (C := "ThreeModeJournalModel") hx hb hts F_Mod_ok.1 ty_Mod F_Mod_ok.2.1 F_Mod_ok.2.2 hown hK hP hD hS 0 rfl rfl 8 (by decide) (hts _ T_481) (fun _ h9 => h9) rfl hin rfl (F_Mod_ok.2.1 8 (by decide)) rfl rfl (Nat.le_of_ble_eq_true rfl) d_Mod_init_68 (fun H locs hP hD hS => ?_)
  have hP : va_P D tj_cls [(h0, .inr (5, [.ref q7, .ref q15, .ref q23, .ref q31, .ref q39, .int 0, .ref q48, .ref q57, .ref q66, .null, .int 0, .int 0, .int 0, .int 0, .int 0, .int 0, .int 0])), (q7, .inl (c7, 92, .inl (fun _ => (0 : Int32)))), (q15, .inl (c15, 92, .inl (fun _ => (0 : Int32)))), (q23, .inl (c23, 23, .inl (fun _ => (0 : Int32)))), (q31, .inl (c31, 23, .inl (fun _ => (0 : Int32)))), (q39, .inl (c39, 16, .inl (fun _ => (0 : Int32)))), (q48, .inl (c48, 184, .inl (fun _ => (0 : Int32)))), (q57, .inl (c57, 184, .inl (fun _ => (0 : Int32)))), (q66, .inl (c66, 736, .inl (fun _ => (0 : Int32))))] H := hP
  have hD : va_D A [(h0, .inr (5, [.ref q7, .ref q15, .ref q23, .ref q31, .ref q39, .int 0, .ref q48, .ref q57, .ref q66, .null, .int 0, .int 0, .int 0, .int 0, .int 0, .int 0, .int 0])), (q7, .inl (c7, 92, .inl (fun _ => (0 : Int32)))), (q15, .inl (c15, 92, .inl (fun _ => (0 : Int32)))), (q23, .inl (c23, 23, .inl (fun _ => (0 : Int32)))), (q31, .inl (c31, 23, .inl (fun _ => (0 : Int32)))), (q39, .inl (c39, 16, .inl (fun _ => (0 : Int32)))), (q48, .inl (c48, 184, .inl (fun _ => (0 : Int32)))), (q57, .inl (c57, 184, .inl (fun _ => (0 : Int32)))), (q66, .inl (c66, 736, .inl (fun _ => (0 : Int32))))] := hD
  refine lv_aload_n hx hb d_Mod_init_71 rfl (lv_at hl 0 rfl) ?_
  refine lv_bipush (v := 8) hx hb d_Mod_init_72 (by decide) ?_
  refine va_newa (atype := .int) (ty := .int) (N' := 8) (a0 := (8, .inl (fun _ => (0 : Int32)))) hx hb (hts _ T_78) rfl hK hP hD hS hA (fun _ => rfl) (by decide) (by decide) (by decide) (Nat.le_of_ble_eq_true rfl) (Nat.le_of_ble_eq_true rfl) d_Mod_init_74 (fun q74 c74 H hK hP hD hS => ?_)
  have hP : va_P D tj_cls [(h0, .inr (5, [.ref q7, .ref q15, .ref q23, .ref q31, .ref q39, .int 0, .ref q48, .ref q57, .ref q66, .null, .int 0, .int 0, .int 0, .int 0, .int 0, .int 0, .int 0])), (q7, .inl (c7, 92, .inl (fun _ => (0 : Int32)))), (q15, .inl (c15, 92, .inl (fun _ => (0 : Int32)))), (q23, .inl (c23, 23, .inl (fun _ => (0 : Int32)))), (q31, .inl (c31, 23, .inl (fun _ => (0 : Int32)))), (q39, .inl (c39, 16, .inl (fun _ => (0 : Int32)))), (q48, .inl (c48, 184, .inl (fun _ => (0 : Int32)))), (q57, .inl (c57, 184, .inl (fun _ => (0 : Int32)))), (q66, .inl (c66, 736, .inl (fun _ => (0 : Int32)))), (q74, .inl (c74, 8, .inl (fun _ => (0 : Int32))))] H := hP
  have hD : va_D A [(h0, .inr (5, [.ref q7, .ref q15, .ref q23, .ref q31, .ref q39, .int 0, .ref q48, .ref q57, .ref q66, .null, .int 0, .int 0, .int 0, .int 0, .int 0, .int 0, .int 0])), (q7, .inl (c7, 92, .inl (fun _ => (0 : Int32)))), (q15, .inl (c15, 92, .inl (fun _ => (0 : Int32)))), (q23, .inl (c23, 23, .inl (fun _ => (0 : Int32)))), (q31, .inl (c31, 23, .inl (fun _ => (0 : Int32)))), (q39, .inl (c39, 16, .inl (fun _ => (0 : Int32)))), (q48, .inl (c48, 184, .inl (fun _ => (0 : Int32)))), (q57, .inl (c57, 184, .inl (fun _ => (0 : Int32)))), (q66, .inl (c66, 736, .inl (fun _ => (0 : Int32)))), (q74, .inl (c74, 8, .inl (fun _ => (0 : Int32))))] := hD
  have hK : va_K D tj_cls [(c7, .int), (c15, .int), (c23, .boolean), (c31, .boolean), (c39, .int), (c48, .boolean), (c57, .boolean), (c66, .int), (c74, .int)] s := hK
  refine W.widen (k := 9) (n := 1358) (Nat.le_refl _) (Nat.le_refl _) ?_
  refine va_putF (T := F_Mod) (N := 17) (C := "ThreeModeJournalModel") hx hb hts F_Mod_ok.1 ty_Mod F_Mod_ok.2.1 F_Mod_ok.2.2 hown hK hP hD hS 0 rfl rfl 9 (by decide) (hts _ T_482) (fun _ h9 => h9) rfl hin rfl (F_Mod_ok.2.1 9 (by decide)) rfl rfl (Nat.le_of_ble_eq_true rfl) d_Mod_init_76 (fun H locs hP hD hS => ?_)
  have hP : va_P D tj_cls [(h0, .inr (5, [.ref q7, .ref q15, .ref q23, .ref q31, .ref q39, .int 0, .ref q48, .ref q57, .ref q66, .ref q74, .int 0, .int 0, .int 0, .int 0, .int 0, .int 0, .int 0])), (q7, .inl (c7, 92, .inl (fun _ => (0 : Int32)))), (q15, .inl (c15, 92, .inl (fun _ => (0 : Int32)))), (q23, .inl (c23, 23, .inl (fun _ => (0 : Int32)))), (q31, .inl (c31, 23, .inl (fun _ => (0 : Int32)))), (q39, .inl (c39, 16, .inl (fun _ => (0 : Int32)))), (q48, .inl (c48, 184, .inl (fun _ => (0 : Int32)))), (q57, .inl (c57, 184, .inl (fun _ => (0 : Int32)))), (q66, .inl (c66, 736, .inl (fun _ => (0 : Int32)))), (q74, .inl (c74, 8, .inl (fun _ => (0 : Int32))))] H := hP
  have hD : va_D A [(h0, .inr (5, [.ref q7, .ref q15, .ref q23, .ref q31, .ref q39, .int 0, .ref q48, .ref q57, .ref q66, .ref q74, .int 0, .int 0, .int 0, .int 0, .int 0, .int 0, .int 0])), (q7, .inl (c7, 92, .inl (fun _ => (0 : Int32)))), (q15, .inl (c15, 92, .inl (fun _ => (0 : Int32)))), (q23, .inl (c23, 23, .inl (fun _ => (0 : Int32)))), (q31, .inl (c31, 23, .inl (fun _ => (0 : Int32)))), (q39, .inl (c39, 16, .inl (fun _ => (0 : Int32)))), (q48, .inl (c48, 184, .inl (fun _ => (0 : Int32)))), (q57, .inl (c57, 184, .inl (fun _ => (0 : Int32)))), (q66, .inl (c66, 736, .inl (fun _ => (0 : Int32)))), (q74, .inl (c74, 8, .inl (fun _ => (0 : Int32))))] := hD
  refine lv_aload_n hx hb d_Mod_init_79 rfl (lv_at hl 0 rfl) ?_
  refine lv_iconst (v := 1) hx hb d_Mod_init_80 (by decide) ?_
  refine va_put (T := F_Mod) (N := 17) (C := "ThreeModeJournalModel") hx hb hts F_Mod_ok.1 ty_Mod F_Mod_ok.2.1 F_Mod_ok.2.2 hown hK hP hD hS 0 rfl rfl 12 (by decide) (hts _ T_485) (fun _ h9 => h9) rfl (F_Mod_ok.2.1 12 (by decide)) rfl rfl (Nat.le_of_ble_eq_true rfl) d_Mod_init_81 (fun H locs hP hD hS => ?_)
  have hP : va_P D tj_cls [(h0, .inr (5, [.ref q7, .ref q15, .ref q23, .ref q31, .ref q39, .int 0, .ref q48, .ref q57, .ref q66, .ref q74, .int 0, .int 0, .int (1), .int 0, .int 0, .int 0, .int 0])), (q7, .inl (c7, 92, .inl (fun _ => (0 : Int32)))), (q15, .inl (c15, 92, .inl (fun _ => (0 : Int32)))), (q23, .inl (c23, 23, .inl (fun _ => (0 : Int32)))), (q31, .inl (c31, 23, .inl (fun _ => (0 : Int32)))), (q39, .inl (c39, 16, .inl (fun _ => (0 : Int32)))), (q48, .inl (c48, 184, .inl (fun _ => (0 : Int32)))), (q57, .inl (c57, 184, .inl (fun _ => (0 : Int32)))), (q66, .inl (c66, 736, .inl (fun _ => (0 : Int32)))), (q74, .inl (c74, 8, .inl (fun _ => (0 : Int32))))] H := hP
  have hD : va_D A [(h0, .inr (5, [.ref q7, .ref q15, .ref q23, .ref q31, .ref q39, .int 0, .ref q48, .ref q57, .ref q66, .ref q74, .int 0, .int 0, .int (1), .int 0, .int 0, .int 0, .int 0])), (q7, .inl (c7, 92, .inl (fun _ => (0 : Int32)))), (q15, .inl (c15, 92, .inl (fun _ => (0 : Int32)))), (q23, .inl (c23, 23, .inl (fun _ => (0 : Int32)))), (q31, .inl (c31, 23, .inl (fun _ => (0 : Int32)))), (q39, .inl (c39, 16, .inl (fun _ => (0 : Int32)))), (q48, .inl (c48, 184, .inl (fun _ => (0 : Int32)))), (q57, .inl (c57, 184, .inl (fun _ => (0 : Int32)))), (q66, .inl (c66, 736, .inl (fun _ => (0 : Int32)))), (q74, .inl (c74, 8, .inl (fun _ => (0 : Int32))))] := hD
  refine lv_aload_n hx hb d_Mod_init_84 rfl (lv_at hl 0 rfl) ?_
  refine lv_iconst (v := 1) hx hb d_Mod_init_85 (by decide) ?_
  refine va_put (T := F_Mod) (N := 17) (C := "ThreeModeJournalModel") hx hb hts F_Mod_ok.1 ty_Mod F_Mod_ok.2.1 F_Mod_ok.2.2 hown hK hP hD hS 0 rfl rfl 13 (by decide) (hts _ T_486) (fun _ h9 => h9) rfl (F_Mod_ok.2.1 13 (by decide)) rfl rfl (Nat.le_of_ble_eq_true rfl) d_Mod_init_86 (fun H locs hP hD hS => ?_)
  have hP : va_P D tj_cls [(h0, .inr (5, [.ref q7, .ref q15, .ref q23, .ref q31, .ref q39, .int 0, .ref q48, .ref q57, .ref q66, .ref q74, .int 0, .int 0, .int (1), .int (1), .int 0, .int 0, .int 0])), (q7, .inl (c7, 92, .inl (fun _ => (0 : Int32)))), (q15, .inl (c15, 92, .inl (fun _ => (0 : Int32)))), (q23, .inl (c23, 23, .inl (fun _ => (0 : Int32)))), (q31, .inl (c31, 23, .inl (fun _ => (0 : Int32)))), (q39, .inl (c39, 16, .inl (fun _ => (0 : Int32)))), (q48, .inl (c48, 184, .inl (fun _ => (0 : Int32)))), (q57, .inl (c57, 184, .inl (fun _ => (0 : Int32)))), (q66, .inl (c66, 736, .inl (fun _ => (0 : Int32)))), (q74, .inl (c74, 8, .inl (fun _ => (0 : Int32))))] H := hP
  have hD : va_D A [(h0, .inr (5, [.ref q7, .ref q15, .ref q23, .ref q31, .ref q39, .int 0, .ref q48, .ref q57, .ref q66, .ref q74, .int 0, .int 0, .int (1), .int (1), .int 0, .int 0, .int 0])), (q7, .inl (c7, 92, .inl (fun _ => (0 : Int32)))), (q15, .inl (c15, 92, .inl (fun _ => (0 : Int32)))), (q23, .inl (c23, 23, .inl (fun _ => (0 : Int32)))), (q31, .inl (c31, 23, .inl (fun _ => (0 : Int32)))), (q39, .inl (c39, 16, .inl (fun _ => (0 : Int32)))), (q48, .inl (c48, 184, .inl (fun _ => (0 : Int32)))), (q57, .inl (c57, 184, .inl (fun _ => (0 : Int32)))), (q66, .inl (c66, 736, .inl (fun _ => (0 : Int32)))), (q74, .inl (c74, 8, .inl (fun _ => (0 : Int32))))] := hD
  refine lv_aload_n hx hb d_Mod_init_89 rfl (lv_at hl 0 rfl) ?_
  refine lv_iconst (v := -1) hx hb d_Mod_init_90 (by decide) ?_
  refine va_put (T := F_Mod) (N := 17) (C := "ThreeModeJournalModel") hx hb hts F_Mod_ok.1 ty_Mod F_Mod_ok.2.1 F_Mod_ok.2.2 hown hK hP hD hS 0 rfl rfl 14 (by decide) (hts _ T_487) (fun _ h9 => h9) rfl (F_Mod_ok.2.1 14 (by decide)) rfl rfl (Nat.le_of_ble_eq_true rfl) d_Mod_init_91 (fun H locs hP hD hS => ?_)
  have hP : va_P D tj_cls [(h0, .inr (5, [.ref q7, .ref q15, .ref q23, .ref q31, .ref q39, .int 0, .ref q48, .ref q57, .ref q66, .ref q74, .int 0, .int 0, .int (1), .int (1), .int (-1), .int 0, .int 0])), (q7, .inl (c7, 92, .inl (fun _ => (0 : Int32)))), (q15, .inl (c15, 92, .inl (fun _ => (0 : Int32)))), (q23, .inl (c23, 23, .inl (fun _ => (0 : Int32)))), (q31, .inl (c31, 23, .inl (fun _ => (0 : Int32)))), (q39, .inl (c39, 16, .inl (fun _ => (0 : Int32)))), (q48, .inl (c48, 184, .inl (fun _ => (0 : Int32)))), (q57, .inl (c57, 184, .inl (fun _ => (0 : Int32)))), (q66, .inl (c66, 736, .inl (fun _ => (0 : Int32)))), (q74, .inl (c74, 8, .inl (fun _ => (0 : Int32))))] H := hP
  have hD : va_D A [(h0, .inr (5, [.ref q7, .ref q15, .ref q23, .ref q31, .ref q39, .int 0, .ref q48, .ref q57, .ref q66, .ref q74, .int 0, .int 0, .int (1), .int (1), .int (-1), .int 0, .int 0])), (q7, .inl (c7, 92, .inl (fun _ => (0 : Int32)))), (q15, .inl (c15, 92, .inl (fun _ => (0 : Int32)))), (q23, .inl (c23, 23, .inl (fun _ => (0 : Int32)))), (q31, .inl (c31, 23, .inl (fun _ => (0 : Int32)))), (q39, .inl (c39, 16, .inl (fun _ => (0 : Int32)))), (q48, .inl (c48, 184, .inl (fun _ => (0 : Int32)))), (q57, .inl (c57, 184, .inl (fun _ => (0 : Int32)))), (q66, .inl (c66, 736, .inl (fun _ => (0 : Int32)))), (q74, .inl (c74, 8, .inl (fun _ => (0 : Int32))))] := hD
  exact W.vret hx hb hr (fun t ht hW => ⟨⟨(), rfl, trivial, q7, q15, q23, q31, q39, q48, q57, q66, q74, c7, c15, c23, c31, c39, c48, c57, c66, c74, by rw [ht]; exact hP, va_K.moved hW.alike hK, hD⟩, hS.F ht⟩) hS.2.2 d_Mod_init_94
