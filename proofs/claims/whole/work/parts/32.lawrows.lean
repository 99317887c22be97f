def L_cw (K K1 : Nat → ClassId) (q q1 : Nat → Nat) (u : tj_S × tj_S) : va_W := X_cw K q u.1 ++ M_cw K1 q1 u.2
def L_tys (K K1 : Nat → ClassId) : List (ClassId × FieldType) := X_tys K ++ M_tys K1
def tj_X (Γ : tj_G) (b L : Nat) (xs : Nat → Int32) : Prop :=
  match Γ with
  | (_, _, _, _, s, _, _, _, _, _, A, H0, _, _, _, _, _, _) => va_X b L xs s H0 ∧ b < H0.size ∧ ¬ A b
theorem xl_sld {Γ : tj_G} {l0 : Launch} {D0 : va_G} {cls0 : List vw_C} {nL0 : Nat} {cc : ByteArray} {own : String} {fr lo : Nat} {Ts : List Cond} {tys : List (ClassId × FieldType)} {NL : List Cond} {S : Type} {cw : S → va_W} {σ : S} {lv : List (Nat × Value)} {pc : Nat} {st : List Value} (C : tj_C Γ l0 D0 cls0 nL0 cc own fr lo Ts tys NL) {b L : Nat} {xs : Nat → Int32} (hX : tj_X Γ b L xs) {i : Int32} (hin : vp_in i L) (hdg : decode cc pc = .ok (.iaload, 1)) (kk : tj_W Γ cw σ lv (pc + 1) (.int (xs i.toNatClampNeg) :: st)) : tj_W Γ cw σ lv pc (.int i :: .ref b :: st) := by
  obtain ⟨p, l, e, R, s, m, args, below, meth, c, A, H0, cells, slots, Q, D, cls, nL⟩ := Γ
  obtain ⟨hx, hb, hml, hown, hts, hK, hN, hA, hfr, hlo, hce, hsl, rfl, rfl, rfl, rfl⟩ := C
  intro H locs ls hP hD hS hv
  exact va_sld hx hb hX.1 hX.2.1 hX.2.2 hS hin hdg (kk H locs ls hP hD hS hv)
theorem xl_slen {Γ : tj_G} {l0 : Launch} {D0 : va_G} {cls0 : List vw_C} {nL0 : Nat} {cc : ByteArray} {own : String} {fr lo : Nat} {Ts : List Cond} {tys : List (ClassId × FieldType)} {NL : List Cond} {S : Type} {cw : S → va_W} {σ : S} {lv : List (Nat × Value)} {pc : Nat} {st : List Value} (C : tj_C Γ l0 D0 cls0 nL0 cc own fr lo Ts tys NL) {b L : Nat} {xs : Nat → Int32} (hX : tj_X Γ b L xs) (hdg : decode cc pc = .ok (.arraylength, 1)) (kk : tj_W Γ cw σ lv (pc + 1) (.int (nI L) :: st)) : tj_W Γ cw σ lv pc (.ref b :: st) := by
  obtain ⟨p, l, e, R, s, m, args, below, meth, c, A, H0, cells, slots, Q, D, cls, nL⟩ := Γ
  obtain ⟨hx, hb, hml, hown, hts, hK, hN, hA, hfr, hlo, hce, hsl, rfl, rfl, rfl, rfl⟩ := C
  intro H locs ls hP hD hS hv
  exact va_slen hx hb hX.1 hX.2.1 hX.2.2 hS hdg (kk H locs ls hP hD hS hv)
theorem xl_iinc {Γ : tj_G} {l0 : Launch} {D0 : va_G} {cls0 : List vw_C} {nL0 : Nat} {cc : ByteArray} {own : String} {fr lo : Nat} {Ts : List Cond} {tys : List (ClassId × FieldType)} {NL : List Cond} {S : Type} {cw : S → va_W} {σ : S} {lv : List (Nat × Value)} {pc : Nat} {st : List Value} (C : tj_C Γ l0 D0 cls0 nL0 cc own fr lo Ts tys NL) {i : Nat} {n : Int} {x v : Int32} {lv1 : List (Nat × Value)} (hdg : decode cc pc = .ok (.iinc i n, 3)) (j : Nat) (hk : lv[j]? = some (i, .int x)) (hv0 : x + Int32.ofInt n = v) (hn : i < nL0) (hl : (i, Value.int v) :: lv.filter (fun q => !(q.1 == i) && !(q.1 + 1 == i && q.2.category == 2)) = lv1) (kk : tj_W Γ cw σ lv1 (pc + 3) st) : tj_W Γ cw σ lv pc st := by
  obtain ⟨p, l, e, R, s, m, args, below, meth, c, A, H0, cells, slots, Q, D, cls, nL⟩ := Γ
  obtain ⟨hx, hb, hml, hown, hts, hK, hN, hA, hfr, hlo, hce, hsl, rfl, rfl, rfl, rfl⟩ := C
  intro H locs ls hP hD hS hv
  exact lv_iinc hx hb hdg hv hk hv0 hn hl (fun ls1 hv1 => kk H locs ls1 hP hD hS hv1)
theorem xl_tin {Γ : tj_G} {l0 : Launch} {D0 : va_G} {cls0 : List vw_C} {nL0 : Nat} {cc : ByteArray} {own : String} {fr lo : Nat} {Ts : List Cond} {tys : List (ClassId × FieldType)} {NL : List Cond} {S : Type} {cw : S → va_W} {σ : S} {lv : List (Nat × Value)} {pc : Nat} {st : List Value} (C : tj_C Γ l0 D0 cls0 nL0 cc own fr lo Ts tys NL) {dflt lo1 hi : Int} {offs : Array Int} {len : Nat} {x : Int32} {off : Int} {tgt : Nat} (hdg : decode cc pc = .ok (.tableswitch dflt lo1 hi offs, len)) (h1 : ¬ x.toInt < lo1) (h2 : ¬ hi < x.toInt) (ho : offs[(x.toInt - lo1).toNat]? = some off) (ht : (pc : Int) + off = (tgt : Int)) (kk : tj_W Γ cw σ lv tgt st) : tj_W Γ cw σ lv pc (.int x :: st) := by
  obtain ⟨p, l, e, R, s, m, args, below, meth, c, A, H0, cells, slots, Q, D, cls, nL⟩ := Γ
  obtain ⟨hx, hb, hml, hown, hts, hK, hN, hA, hfr, hlo, hce, hsl, rfl, rfl, rfl, rfl⟩ := C
  intro H locs ls hP hD hS hv
  exact lv_tableIn hx hb hdg h1 h2 ho ht (kk H locs ls hP hD hS hv)
theorem xl_tout {Γ : tj_G} {l0 : Launch} {D0 : va_G} {cls0 : List vw_C} {nL0 : Nat} {cc : ByteArray} {own : String} {fr lo : Nat} {Ts : List Cond} {tys : List (ClassId × FieldType)} {NL : List Cond} {S : Type} {cw : S → va_W} {σ : S} {lv : List (Nat × Value)} {pc : Nat} {st : List Value} (C : tj_C Γ l0 D0 cls0 nL0 cc own fr lo Ts tys NL) {dflt lo1 hi : Int} {offs : Array Int} {len : Nat} {x : Int32} {tgt : Nat} (hdg : decode cc pc = .ok (.tableswitch dflt lo1 hi offs, len)) (h : x.toInt < lo1 ∨ hi < x.toInt) (ht : (pc : Int) + dflt = (tgt : Int)) (kk : tj_W Γ cw σ lv tgt st) : tj_W Γ cw σ lv pc (.int x :: st) := by
  obtain ⟨p, l, e, R, s, m, args, below, meth, c, A, H0, cells, slots, Q, D, cls, nL⟩ := Γ
  obtain ⟨hx, hb, hml, hown, hts, hK, hN, hA, hfr, hlo, hce, hsl, rfl, rfl, rfl, rfl⟩ := C
  intro H locs ls hP hD hS hv
  exact lv_tableOut hx hb hdg h ht (kk H locs ls hP hD hS hv)
theorem xl_callX_i {Γ : tj_G} {l0 : Launch} {D0 : va_G} {nL0 : Nat} {cc : ByteArray} {own : String} {fr lo : Nat} {K K1 : Nat → ClassId} {q q1 : Nat → Nat} {s0 t0 : tj_S} {lv : List (Nat × Value)} {pc : Nat} {st : List Value} (C : tj_C Γ l0 D0 tj_cls nL0 cc own fr lo tj_T (L_tys K K1) tj_N) {y : MethodName} {bytes : ByteArray} {maxL n index f1 l1 : Nat} {rt : FieldType} {r : Int32} {As rest : List Value} {z1 : tj_S} (hM : tj_Mi l0 D0 tj_cls (X_tys K) tj_N tj_T (X_cw K q) y bytes maxL rt f1 l1 (.ref (q 0) :: As) s0 r z1) (hcode : Cond.code y bytes maxL (some rt) ∈ tj_T) (hlink : Cond.methodLink own index y ∈ tj_T) (hini : Cond.initialized y.cls ∈ tj_T) (hinst : Cond.instanceMethod y ∈ tj_T) (hsel : Cond.selects y.cls y y ∈ tj_T) (hq : "ThreeModeJournal" = y.cls) (hd : y.cls ≠ "java/lang/invoke/MethodHandle" ∧ y.cls ≠ "java/lang/invoke/VarHandle" ∧ (parseMethodDescriptor y.desc).map (fun d => d.parameters.length) = some n) (hR : f1 + 1 ≤ fr ∧ 8 + (maxL + 11) + l1 ≤ lo) (hn : As.length = n) (hst : st = As.reverse ++ .ref (q 0) :: rest) (hr0 : (rest.map fun v => v.category).sum ≤ 8) (hdg : decode cc pc = .ok (.invokevirtual index, 3)) (kk : tj_W Γ (L_cw K K1 q q1) (z1, t0) lv (pc + 3) (.int r :: rest)) : tj_W Γ (L_cw K K1 q q1) (s0, t0) lv pc st := by
  obtain ⟨p, l, e, R, s, m, args, below, meth, c, A, H0, cells, slots, Q, D, cls, nL⟩ := Γ
  obtain ⟨hx, hb, hml, hown, hts, hK, hN, hA, hfr, hlo, hce, hsl, rfl, rfl, rfl, rfl⟩ := C
  intro H locs ls hP hD hS hv
  have hPc : va_P D tj_cls (X_cw K q s0) H := hP.sub [0, 1, 2, 3, 4, 5, 6, 7, 8, 9, 10, 11, 12] rfl
  have hDc : va_D A (X_cw K q s0) := hD.sub [0, 1, 2, 3, 4, 5, 6, 7, 8, 9, 10, 11, 12] (by decide) rfl
  have hKc : va_K D tj_cls (X_tys K) s := hK.sub [0, 1, 2, 3, 4, 5, 6, 7] rfl
  have hFc : ∀ x, va_A (X_cw K q s0) H.size x → A x := va_free hD hS hA [0, 1, 2, 3, 4, 5, 6, 7, 8, 9, 10, 11, 12] rfl
  have hrec := va_recv (ci := 0) (q0 := 0) hKc hPc rfl rfl
  rw [show (("ThreeModeJournal", F_X, 4) : vw_C).1 = y.cls from hq] at hrec
  subst hst
  refine va_calli (va_runV (C := y.cls) (As := As) (rest := rest) ⟨hx, hb, hml, hown, hts⟩ (hM H.size) ⟨callB_of n hts (tj_good tj_Tg hcode) rfl rfl rfl (hts _ hini) (hts _ hlink) hd ⟨Nat.le_trans hR.1 hfr, Nat.le_trans hR.2 hlo⟩, hts _ hinst, hts _ hsel⟩ ⟨tj_blind tj_Ng, hrec, fun U hU hW => ⟨rfl, by rw [hU], by rw [hU]; exact hPc, va_K.moved hW.alike hKc, hDc.weaken (fun _ _ _ _ => trivial), tj_nwarm tj_Ng hW hN⟩⟩ rfl hn hv.1 rfl (lv_room hr0) hdg ⟨hce, hsl⟩) hS (fun x _ h => hFc x h) hFc (fun r2 u t H1 locs1 ht hvm hpost hB hz hk hS1 => ?_)
  obtain ⟨rfl, rfl⟩ := hpost
  obtain ⟨hP1, hD1⟩ := hB
  rw [ht] at hP1
  obtain ⟨hP2, hD2⟩ := va_join (wr := (M_cw K1 q1 t0)) hP hD [0, 1, 2, 3, 4, 5, 6, 7, 8, 9, 10, 11, 12] [13, 14, 15, 16, 17, 18, 19, 20, 21, 22] rfl rfl (by decide) (by decide) hk hFc hP1 hD1
  exact kk H1 locs1 ls (hP2.sub [10, 11, 12, 13, 14, 15, 16, 17, 18, 19, 20, 21, 22, 0, 1, 2, 3, 4, 5, 6, 7, 8, 9] rfl) (hD2.sub [10, 11, 12, 13, 14, 15, 16, 17, 18, 19, 20, 21, 22, 0, 1, 2, 3, 4, 5, 6, 7, 8, 9] (by decide) rfl) hS1 hv
theorem xl_callX_v {Γ : tj_G} {l0 : Launch} {D0 : va_G} {nL0 : Nat} {cc : ByteArray} {own : String} {fr lo : Nat} {K K1 : Nat → ClassId} {q q1 : Nat → Nat} {s0 t0 : tj_S} {lv : List (Nat × Value)} {pc : Nat} {st : List Value} (C : tj_C Γ l0 D0 tj_cls nL0 cc own fr lo tj_T (L_tys K K1) tj_N) {y : MethodName} {bytes : ByteArray} {maxL n index f1 l1 : Nat} {As rest : List Value} {z1 : tj_S} (hM : tj_Mv l0 D0 tj_cls (X_tys K) tj_N tj_T (X_cw K q) y bytes maxL f1 l1 (.ref (q 0) :: As) s0 z1) (hcode : Cond.code y bytes maxL none ∈ tj_T) (hlink : Cond.methodLink own index y ∈ tj_T) (hini : Cond.initialized y.cls ∈ tj_T) (hinst : Cond.instanceMethod y ∈ tj_T) (hsel : Cond.selects y.cls y y ∈ tj_T) (hq : "ThreeModeJournal" = y.cls) (hd : y.cls ≠ "java/lang/invoke/MethodHandle" ∧ y.cls ≠ "java/lang/invoke/VarHandle" ∧ (parseMethodDescriptor y.desc).map (fun d => d.parameters.length) = some n) (hR : f1 + 1 ≤ fr ∧ 8 + (maxL + 11) + l1 ≤ lo) (hn : As.length = n) (hst : st = As.reverse ++ .ref (q 0) :: rest) (hr0 : (rest.map fun v => v.category).sum ≤ 8) (hdg : decode cc pc = .ok (.invokevirtual index, 3)) (kk : tj_W Γ (L_cw K K1 q q1) (z1, t0) lv (pc + 3) (rest)) : tj_W Γ (L_cw K K1 q q1) (s0, t0) lv pc st := by
  obtain ⟨p, l, e, R, s, m, args, below, meth, c, A, H0, cells, slots, Q, D, cls, nL⟩ := Γ
  obtain ⟨hx, hb, hml, hown, hts, hK, hN, hA, hfr, hlo, hce, hsl, rfl, rfl, rfl, rfl⟩ := C
  intro H locs ls hP hD hS hv
  have hPc : va_P D tj_cls (X_cw K q s0) H := hP.sub [0, 1, 2, 3, 4, 5, 6, 7, 8, 9, 10, 11, 12] rfl
  have hDc : va_D A (X_cw K q s0) := hD.sub [0, 1, 2, 3, 4, 5, 6, 7, 8, 9, 10, 11, 12] (by decide) rfl
  have hKc : va_K D tj_cls (X_tys K) s := hK.sub [0, 1, 2, 3, 4, 5, 6, 7] rfl
  have hFc : ∀ x, va_A (X_cw K q s0) H.size x → A x := va_free hD hS hA [0, 1, 2, 3, 4, 5, 6, 7, 8, 9, 10, 11, 12] rfl
  have hrec := va_recv (ci := 0) (q0 := 0) hKc hPc rfl rfl
  rw [show (("ThreeModeJournal", F_X, 4) : vw_C).1 = y.cls from hq] at hrec
  subst hst
  refine va_callv (va_runV (C := y.cls) (As := As) (rest := rest) ⟨hx, hb, hml, hown, hts⟩ (hM H.size) ⟨callB_of n hts (tj_good tj_Tg hcode) rfl rfl rfl (hts _ hini) (hts _ hlink) hd ⟨Nat.le_trans hR.1 hfr, Nat.le_trans hR.2 hlo⟩, hts _ hinst, hts _ hsel⟩ ⟨tj_blind tj_Ng, hrec, fun U hU hW => ⟨rfl, by rw [hU], by rw [hU]; exact hPc, va_K.moved hW.alike hKc, hDc.weaken (fun _ _ _ _ => trivial), tj_nwarm tj_Ng hW hN⟩⟩ rfl hn hv.1 rfl (lv_room hr0) hdg ⟨hce, hsl⟩) hS (fun x _ h => hFc x h) hFc (fun u t H1 locs1 ht hvm hpost hB hz hk hS1 => ?_)
  subst hpost
  obtain ⟨hP1, hD1⟩ := hB
  rw [ht] at hP1
  obtain ⟨hP2, hD2⟩ := va_join (wr := (M_cw K1 q1 t0)) hP hD [0, 1, 2, 3, 4, 5, 6, 7, 8, 9, 10, 11, 12] [13, 14, 15, 16, 17, 18, 19, 20, 21, 22] rfl rfl (by decide) (by decide) hk hFc hP1 hD1
  exact kk H1 locs1 ls (hP2.sub [10, 11, 12, 13, 14, 15, 16, 17, 18, 19, 20, 21, 22, 0, 1, 2, 3, 4, 5, 6, 7, 8, 9] rfl) (hD2.sub [10, 11, 12, 13, 14, 15, 16, 17, 18, 19, 20, 21, 22, 0, 1, 2, 3, 4, 5, 6, 7, 8, 9] (by decide) rfl) hS1 hv
theorem xl_callM_i {Γ : tj_G} {l0 : Launch} {D0 : va_G} {nL0 : Nat} {cc : ByteArray} {own : String} {fr lo : Nat} {K K1 : Nat → ClassId} {q q1 : Nat → Nat} {s0 t0 : tj_S} {lv : List (Nat × Value)} {pc : Nat} {st : List Value} (C : tj_C Γ l0 D0 tj_cls nL0 cc own fr lo tj_T (L_tys K K1) tj_N) {y : MethodName} {bytes : ByteArray} {maxL n index f1 l1 : Nat} {rt : FieldType} {r : Int32} {As rest : List Value} {z1 : tj_S} (hM : tj_Mi l0 D0 tj_cls (M_tys K1) tj_N tj_T (M_cw K1 q1) y bytes maxL rt f1 l1 (.ref (q1 0) :: As) t0 r z1) (hcode : Cond.code y bytes maxL (some rt) ∈ tj_T) (hlink : Cond.methodLink own index y ∈ tj_T) (hini : Cond.initialized y.cls ∈ tj_T) (hinst : Cond.instanceMethod y ∈ tj_T) (hsel : Cond.selects y.cls y y ∈ tj_T) (hq : "ThreeModeJournalModel" = y.cls) (hd : y.cls ≠ "java/lang/invoke/MethodHandle" ∧ y.cls ≠ "java/lang/invoke/VarHandle" ∧ (parseMethodDescriptor y.desc).map (fun d => d.parameters.length) = some n) (hR : f1 + 1 ≤ fr ∧ 8 + (maxL + 11) + l1 ≤ lo) (hn : As.length = n) (hst : st = As.reverse ++ .ref (q1 0) :: rest) (hr0 : (rest.map fun v => v.category).sum ≤ 8) (hdg : decode cc pc = .ok (.invokevirtual index, 3)) (kk : tj_W Γ (L_cw K K1 q q1) (s0, z1) lv (pc + 3) (.int r :: rest)) : tj_W Γ (L_cw K K1 q q1) (s0, t0) lv pc st := by
  obtain ⟨p, l, e, R, s, m, args, below, meth, c, A, H0, cells, slots, Q, D, cls, nL⟩ := Γ
  obtain ⟨hx, hb, hml, hown, hts, hK, hN, hA, hfr, hlo, hce, hsl, rfl, rfl, rfl, rfl⟩ := C
  intro H locs ls hP hD hS hv
  have hPc : va_P D tj_cls (M_cw K1 q1 t0) H := hP.sub [13, 14, 15, 16, 17, 18, 19, 20, 21, 22] rfl
  have hDc : va_D A (M_cw K1 q1 t0) := hD.sub [13, 14, 15, 16, 17, 18, 19, 20, 21, 22] (by decide) rfl
  have hKc : va_K D tj_cls (M_tys K1) s := hK.sub [8, 9, 10, 11, 12, 13, 14, 15, 16] rfl
  have hFc : ∀ x, va_A (M_cw K1 q1 t0) H.size x → A x := va_free hD hS hA [13, 14, 15, 16, 17, 18, 19, 20, 21, 22] rfl
  have hrec := va_recv (ci := 5) (q0 := 0) hKc hPc rfl rfl
  rw [show (("ThreeModeJournalModel", F_Mod, 17) : vw_C).1 = y.cls from hq] at hrec
  subst hst
  refine va_calli (va_runV (C := y.cls) (As := As) (rest := rest) ⟨hx, hb, hml, hown, hts⟩ (hM H.size) ⟨callB_of n hts (tj_good tj_Tg hcode) rfl rfl rfl (hts _ hini) (hts _ hlink) hd ⟨Nat.le_trans hR.1 hfr, Nat.le_trans hR.2 hlo⟩, hts _ hinst, hts _ hsel⟩ ⟨tj_blind tj_Ng, hrec, fun U hU hW => ⟨rfl, by rw [hU], by rw [hU]; exact hPc, va_K.moved hW.alike hKc, hDc.weaken (fun _ _ _ _ => trivial), tj_nwarm tj_Ng hW hN⟩⟩ rfl hn hv.1 rfl (lv_room hr0) hdg ⟨hce, hsl⟩) hS (fun x _ h => hFc x h) hFc (fun r2 u t H1 locs1 ht hvm hpost hB hz hk hS1 => ?_)
  obtain ⟨rfl, rfl⟩ := hpost
  obtain ⟨hP1, hD1⟩ := hB
  rw [ht] at hP1
  obtain ⟨hP2, hD2⟩ := va_join (wr := (X_cw K q s0)) hP hD [13, 14, 15, 16, 17, 18, 19, 20, 21, 22] [0, 1, 2, 3, 4, 5, 6, 7, 8, 9, 10, 11, 12] rfl rfl (by decide) (by decide) hk hFc hP1 hD1
  exact kk H1 locs1 ls hP2 hD2 hS1 hv
theorem xl_callM_v {Γ : tj_G} {l0 : Launch} {D0 : va_G} {nL0 : Nat} {cc : ByteArray} {own : String} {fr lo : Nat} {K K1 : Nat → ClassId} {q q1 : Nat → Nat} {s0 t0 : tj_S} {lv : List (Nat × Value)} {pc : Nat} {st : List Value} (C : tj_C Γ l0 D0 tj_cls nL0 cc own fr lo tj_T (L_tys K K1) tj_N) {y : MethodName} {bytes : ByteArray} {maxL n index f1 l1 : Nat} {As rest : List Value} {z1 : tj_S} (hM : tj_Mv l0 D0 tj_cls (M_tys K1) tj_N tj_T (M_cw K1 q1) y bytes maxL f1 l1 (.ref (q1 0) :: As) t0 z1) (hcode : Cond.code y bytes maxL none ∈ tj_T) (hlink : Cond.methodLink own index y ∈ tj_T) (hini : Cond.initialized y.cls ∈ tj_T) (hinst : Cond.instanceMethod y ∈ tj_T) (hsel : Cond.selects y.cls y y ∈ tj_T) (hq : "ThreeModeJournalModel" = y.cls) (hd : y.cls ≠ "java/lang/invoke/MethodHandle" ∧ y.cls ≠ "java/lang/invoke/VarHandle" ∧ (parseMethodDescriptor y.desc).map (fun d => d.parameters.length) = some n) (hR : f1 + 1 ≤ fr ∧ 8 + (maxL + 11) + l1 ≤ lo) (hn : As.length = n) (hst : st = As.reverse ++ .ref (q1 0) :: rest) (hr0 : (rest.map fun v => v.category).sum ≤ 8) (hdg : decode cc pc = .ok (.invokevirtual index, 3)) (kk : tj_W Γ (L_cw K K1 q q1) (s0, z1) lv (pc + 3) (rest)) : tj_W Γ (L_cw K K1 q q1) (s0, t0) lv pc st := by
  obtain ⟨p, l, e, R, s, m, args, below, meth, c, A, H0, cells, slots, Q, D, cls, nL⟩ := Γ
  obtain ⟨hx, hb, hml, hown, hts, hK, hN, hA, hfr, hlo, hce, hsl, rfl, rfl, rfl, rfl⟩ := C
  intro H locs ls hP hD hS hv
  have hPc : va_P D tj_cls (M_cw K1 q1 t0) H := hP.sub [13, 14, 15, 16, 17, 18, 19, 20, 21, 22] rfl
  have hDc : va_D A (M_cw K1 q1 t0) := hD.sub [13, 14, 15, 16, 17, 18, 19, 20, 21, 22] (by decide) rfl
  have hKc : va_K D tj_cls (M_tys K1) s := hK.sub [8, 9, 10, 11, 12, 13, 14, 15, 16] rfl
  have hFc : ∀ x, va_A (M_cw K1 q1 t0) H.size x → A x := va_free hD hS hA [13, 14, 15, 16, 17, 18, 19, 20, 21, 22] rfl
  have hrec := va_recv (ci := 5) (q0 := 0) hKc hPc rfl rfl
  rw [show (("ThreeModeJournalModel", F_Mod, 17) : vw_C).1 = y.cls from hq] at hrec
  subst hst
  refine va_callv (va_runV (C := y.cls) (As := As) (rest := rest) ⟨hx, hb, hml, hown, hts⟩ (hM H.size) ⟨callB_of n hts (tj_good tj_Tg hcode) rfl rfl rfl (hts _ hini) (hts _ hlink) hd ⟨Nat.le_trans hR.1 hfr, Nat.le_trans hR.2 hlo⟩, hts _ hinst, hts _ hsel⟩ ⟨tj_blind tj_Ng, hrec, fun U hU hW => ⟨rfl, by rw [hU], by rw [hU]; exact hPc, va_K.moved hW.alike hKc, hDc.weaken (fun _ _ _ _ => trivial), tj_nwarm tj_Ng hW hN⟩⟩ rfl hn hv.1 rfl (lv_room hr0) hdg ⟨hce, hsl⟩) hS (fun x _ h => hFc x h) hFc (fun u t H1 locs1 ht hvm hpost hB hz hk hS1 => ?_)
  subst hpost
  obtain ⟨hP1, hD1⟩ := hB
  rw [ht] at hP1
  obtain ⟨hP2, hD2⟩ := va_join (wr := (X_cw K q s0)) hP hD [13, 14, 15, 16, 17, 18, 19, 20, 21, 22] [0, 1, 2, 3, 4, 5, 6, 7, 8, 9, 10, 11, 12] rfl rfl (by decide) (by decide) hk hFc hP1 hD1
  exact kk H1 locs1 ls hP2 hD2 hS1 hv
/-- what the pure part owes: every operation keeps the relation, and both sides answer alike -/
def sim_write (Rel : tj_S → tj_S → Prop) : Prop := ∀ (a b c : Int32) (s t : tj_S), Rel s t → ∃ (r : Int32) (s1 t1 : tj_S), f_X_write a b c s = some (r, s1) ∧ f_Mod_write a b c t = some (r, t1) ∧ Rel s1 t1
def sim_cut (Rel : tj_S → tj_S → Prop) : Prop := ∀ (a b : Int32) (s t : tj_S), Rel s t → ∃ (r : Int32) (s1 t1 : tj_S), f_X_cut a b s = some (r, s1) ∧ f_Mod_cut a b t = some (r, t1) ∧ Rel s1 t1
def sim_rename (Rel : tj_S → tj_S → Prop) : Prop := ∀ (a b : Int32) (s t : tj_S), Rel s t → ∃ (r : Int32) (s1 t1 : tj_S), f_X_rename a b s = some (r, s1) ∧ f_Mod_rename a b t = some (r, t1) ∧ Rel s1 t1
def sim_read (Rel : tj_S → tj_S → Prop) : Prop := ∀ (a b : Int32) (s t : tj_S), Rel s t → ∃ (r : Int32) (s1 t1 : tj_S), f_X_read a b s = some (r, s1) ∧ f_Mod_read a b t = some (r, t1) ∧ Rel s1 t1
def sim_length (Rel : tj_S → tj_S → Prop) : Prop := ∀ (a : Int32) (s t : tj_S), Rel s t → ∃ (r : Int32) (s1 t1 : tj_S), f_X_length a s = some (r, s1) ∧ f_Mod_length a t = some (r, t1) ∧ Rel s1 t1
def sim_commit (Rel : tj_S → tj_S → Prop) : Prop := ∀ (s t : tj_S), Rel s t → ∃ (r : Int32) (s1 t1 : tj_S), f_X_commit s = some (r, s1) ∧ f_Mod_commit t = some (r, t1) ∧ Rel s1 t1
def sim_sync (Rel : tj_S → tj_S → Prop) : Prop := ∀ (a : Int32) (s t : tj_S), Rel s t → ∃ (r : Int32) (s1 t1 : tj_S), f_X_sync a s = some (r, s1) ∧ f_Mod_sync a t = some (r, t1) ∧ Rel s1 t1
def sim_flush (Rel : tj_S → tj_S → Prop) : Prop := ∀ (a : Int32) (s t : tj_S), Rel s t → ∃ (r : Int32) (s1 t1 : tj_S), f_X_flush a s = some (r, s1) ∧ f_Mod_flush a t = some (r, t1) ∧ Rel s1 t1
def sim_checkpoint (Rel : tj_S → tj_S → Prop) : Prop := ∀ (a : Int32) (s t : tj_S), Rel s t → ∃ (r : Int32) (s1 t1 : tj_S), f_X_checkpoint a s = some (r, s1) ∧ f_Mod_checkpoint a t = some (r, t1) ∧ Rel s1 t1
def sim_fuse (Rel : tj_S → tj_S → Prop) : Prop := ∀ (a : Int32) (s t : tj_S), Rel s t → ∃ (s1 t1 : tj_S), f_X_fuse a s = some s1 ∧ f_Mod_fuse a t = some t1 ∧ Rel s1 t1
def sim_crash (Rel : tj_S → tj_S → Prop) : Prop := ∀ (s t : tj_S), Rel s t → ∃ (r : Int32) (s1 t1 : tj_S), f_X_crash s = some (r, s1) ∧ f_Mod_crash t = some (r, t1) ∧ Rel s1 t1
def sim_mount (Rel : tj_S → tj_S → Prop) : Prop := ∀ (a : Int32) (s t : tj_S), Rel s t → ∃ (r : Int32) (s1 t1 : tj_S), f_X_mount a s = some (r, s1) ∧ f_Mod_mount a t = some (r, t1) ∧ Rel s1 t1
def sim_mode (Rel : tj_S → tj_S → Prop) : Prop := ∀ (s t : tj_S), Rel s t → ∃ (r : Int32) (s1 t1 : tj_S), f_X_mode s = some (r, s1) ∧ f_Mod_mode t = some (r, t1) ∧ Rel s1 t1
def sim_home (Rel : tj_S → tj_S → Prop) : Prop := ∀ (a b : Int32) (s t : tj_S), Rel s t → ∃ (r : Int32) (s1 t1 : tj_S), f_X_home a b s = some (r, s1) ∧ f_Mod_home a b t = some (r, t1) ∧ Rel s1 t1
def sim_need (Rel : tj_S → tj_S → Prop) : Prop := ∀ (s t : tj_S), Rel s t → ∃ (r : Int32) (s1 t1 : tj_S), f_X_need s = some (r, s1) ∧ f_Mod_need t = some (r, t1) ∧ Rel s1 t1
def sim_room (Rel : tj_S → tj_S → Prop) : Prop := ∀ (s t : tj_S), Rel s t → ∃ (r : Int32) (s1 t1 : tj_S), f_X_room s = some (r, s1) ∧ f_Mod_room t = some (r, t1) ∧ Rel s1 t1
def sim_head (Rel : tj_S → tj_S → Prop) : Prop := ∀ (s t : tj_S), Rel s t → ∃ (r : Int32) (s1 t1 : tj_S), f_X_head s = some (r, s1) ∧ f_Mod_head t = some (r, t1) ∧ Rel s1 t1
def sim_dirty (Rel : tj_S → tj_S → Prop) : Prop := ∀ (s t : tj_S), Rel s t → ∃ (r : Int32) (s1 t1 : tj_S), f_X_dirty s = some (r, s1) ∧ f_Mod_dirty t = some (r, t1) ∧ Rel s1 t1
def sim_free (Rel : tj_S → tj_S → Prop) : Prop := ∀ (s t : tj_S), Rel s t → ∃ (r : Int32) (s1 t1 : tj_S), f_X_free s = some (r, s1) ∧ f_Mod_free t = some (r, t1) ∧ Rel s1 t1
def sim_writes (Rel : tj_S → tj_S → Prop) : Prop := ∀ (s t : tj_S), Rel s t → ∃ (r : Int32) (s1 t1 : tj_S), f_X_writes s = some (r, s1) ∧ f_Mod_writes t = some (r, t1) ∧ Rel s1 t1
def tj_Sim (Rel : tj_S → tj_S → Prop) : Prop := sim_write Rel ∧ sim_cut Rel ∧ sim_rename Rel ∧ sim_read Rel ∧ sim_length Rel ∧ sim_commit Rel ∧ sim_sync Rel ∧ sim_flush Rel ∧ sim_checkpoint Rel ∧ sim_fuse Rel ∧ sim_crash Rel ∧ sim_mount Rel ∧ sim_mode Rel ∧ sim_home Rel ∧ sim_need Rel ∧ sim_room Rel ∧ sim_head Rel ∧ sim_dirty Rel ∧ sim_free Rel ∧ sim_writes Rel
