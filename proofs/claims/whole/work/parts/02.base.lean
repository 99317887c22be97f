/-! The walker's base: a judgement tj_W that hides heap, locations and local array behind an abstract state, a row for each instruction. Serves any world cw : S → va_W. -/
abbrev tj_S : Type := Nat → Nat → Int32
def up2 (σ : tj_S) (a i : Nat) (v : Int32) : tj_S := fun b => if b = a then upd (σ a) i v else σ b
def st2 (σ : tj_S) (a : Nat) (g : Nat → Int32) : tj_S := fun b => if b = a then g else σ b
def inb (i : Int32) (n : Nat) : Bool := decide (0 ≤ i.toInt) && decide (i.toInt < (n : Int))
theorem inb_in {i : Int32} {n : Nat} (h : inb i n = true) : vp_in i n := by
  rw [vp_in_iff]
  simpa [inb] using h
def gd {α : Type} (b : Bool) (k : Option α) : Option α := if b = true then k else none
theorem gd_e {α : Type} {b : Bool} {k : Option α} {r : α} (h : gd b k = some r) : b = true ∧ k = some r := by
  unfold gd at h
  by_cases hb : b = true
  · rw [if_pos hb] at h; exact ⟨hb, h⟩
  · rw [if_neg hb] at h; cases h
def nm {α β : Type} (x : α) (k : α → β) : β := k x
def bd {α : Type} (o : Option (Int32 × tj_S)) (k : Int32 → tj_S → Option α) : Option α := match o with
  | some (r, s) => k r s
  | none => none
theorem bd_e {α : Type} {o : Option (Int32 × tj_S)} {k : Int32 → tj_S → Option α} {z : α} (h : bd o k = some z) : ∃ (r : Int32) (s : tj_S), o = some (r, s) ∧ k r s = some z := by
  rcases o with _ | ⟨r, s⟩
  · cases h
  · exact ⟨r, s, rfl, h⟩
def bv {α : Type} (o : Option tj_S) (k : tj_S → Option α) : Option α := match o with
  | some s => k s
  | none => none
theorem bv_e {α : Type} {o : Option tj_S} {k : tj_S → Option α} {z : α} (h : bv o k = some z) : ∃ (s : tj_S), o = some s ∧ k s = some z := by
  rcases o with _ | s
  · cases h
  · exact ⟨s, rfl, h⟩
theorem it_t {α : Type} {c : Prop} [Decidable c] {a b r : α} (hc : c) (h : (if c then a else b) = r) : a = r := by rw [if_pos hc] at h; exact h
theorem it_f {α : Type} {c : Prop} [Decidable c] {a b r : α} (hc : ¬ c) (h : (if c then a else b) = r) : b = r := by rw [if_neg hc] at h; exact h
def isb (v : Int32) : Bool := v == 0 || v == 1
theorem isb_n {v : Int32} (h : isb v = true) : narrow .boolean (.int v) = .int v := by
  have h1 : v = 0 ∨ v = 1 := by simpa [isb] using h
  rcases h1 with rfl | rfl <;> rfl
abbrev tj_G : Type := Program × Launch × Env × Room × State × MethodId × Array Value × List Frame × Method × Code × (Nat → Prop) × Heap × Nat × Nat × (State → Prop) × va_G × List vw_C × Nat
def tj_W {S : Type} (Γ : tj_G) (cw : S → va_W) (σ : S) (lv : List (Nat × Value)) (pc : Nat) (st : List Value) : Prop :=
  match Γ with
  | (p, l, e, R, s, m, args, below, meth, c, A, H0, cells, slots, Q, D, cls, nL) => ∀ (H : Heap) (locs : List Loc) (ls : Array Slot), va_P D cls (cw σ) H → va_D A (cw σ) → va_S A H0 H locs → lv_has ls nL lv → W p l e R s m args below meth c H locs cells slots Q (F0 m pc ls st)
def tj_C (Γ : tj_G) (l0 : Launch) (D0 : va_G) (cls0 : List vw_C) (nL0 : Nat) (cc : ByteArray) (own : String) (fr lo : Nat) (Ts : List Cond) (tys : List (ClassId × FieldType)) (NL : List Cond) : Prop :=
  match Γ with
  | (p, l, _, R, s, m, args, _, _, c, A, H0, cells, slots, _, D, cls, nL) => p.tables.exec = Jvm.exec ∧ c.code = cc ∧ c.maxLocals = nL ∧ s.vm.findClass own = some m.cls ∧ (∀ w ∈ Ts, w.before args s = true) ∧ va_K D cls tys s ∧ (∀ w ∈ NL, va_Nw w s) ∧ (∀ q, H0.size ≤ q → A q) ∧ fr ≤ R.frames ∧ lo ≤ R.locals ∧ cells ≤ R.cells ∧ slots ≤ R.slots ∧ l = l0 ∧ D = D0 ∧ cls = cls0 ∧ nL = nL0
section tjRows
variable {Γ : tj_G} {l0 : Launch} {D0 : va_G} {cls0 : List vw_C} {nL0 : Nat} {cc : ByteArray} {own : String} {fr lo : Nat} {Ts : List Cond} {tys : List (ClassId × FieldType)} {NL : List Cond}
variable {S : Type} {cw : S → va_W} {σ : S} {lv : List (Nat × Value)} {pc : Nat} {st : List Value}
theorem xw_lv {lv1 : List (Nat × Value)} (ks : List Nat) (hl : lv_pick lv ks = lv1) (kk : tj_W Γ cw σ lv1 pc st) : tj_W Γ cw σ lv pc st := by
  obtain ⟨p, l, e, R, s, m, args, below, meth, c, A, H0, cells, slots, Q, D, cls, nL⟩ := Γ
  intro H locs ls hP hD hS hv
  exact kk H locs ls hP hD hS (lv_sub hv ks hl)
theorem xw_ni {α : Type} {x : Int32} {k : Int32 → Option α} {r : α} (h : nm x k = some r) (kk : ∀ y : Int32, k y = some r → tj_W Γ cw σ lv pc (.int y :: st)) : tj_W Γ cw σ lv pc (.int x :: st) := kk x h
theorem xw_ns {α : Type} {k : S → Option α} {r : α} (h : nm σ k = some r) (kk : ∀ y : S, k y = some r → tj_W Γ cw y lv pc st) : tj_W Γ cw σ lv pc st := kk σ h
theorem xw_iconst (C : tj_C Γ l0 D0 cls0 nL0 cc own fr lo Ts tys NL) {n : Int} {v : Int32} (hdg : decode cc pc = .ok (.iconst n, 1)) (hv0 : Int32.ofInt n = v) (kk : tj_W Γ cw σ lv (pc + 1) (.int v :: st)) : tj_W Γ cw σ lv pc (st) := by
  obtain ⟨p, l, e, R, s, m, args, below, meth, c, A, H0, cells, slots, Q, D, cls, nL⟩ := Γ
  obtain ⟨hx, hb, hml, hown, hts, hK, hN, hA, hfr, hlo, hce, hsl, rfl, rfl, rfl, rfl⟩ := C
  intro H locs ls hP hD hS hv
  exact lv_iconst hx hb hdg hv0 (kk H locs ls hP hD hS hv)
theorem xw_bipush (C : tj_C Γ l0 D0 cls0 nL0 cc own fr lo Ts tys NL) {n : Int} {v : Int32} (hdg : decode cc pc = .ok (.bipush n, 2)) (hv0 : (Int8.ofInt n).toInt32 = v) (kk : tj_W Γ cw σ lv (pc + 2) (.int v :: st)) : tj_W Γ cw σ lv pc (st) := by
  obtain ⟨p, l, e, R, s, m, args, below, meth, c, A, H0, cells, slots, Q, D, cls, nL⟩ := Γ
  obtain ⟨hx, hb, hml, hown, hts, hK, hN, hA, hfr, hlo, hce, hsl, rfl, rfl, rfl, rfl⟩ := C
  intro H locs ls hP hD hS hv
  exact lv_bipush hx hb hdg hv0 (kk H locs ls hP hD hS hv)
theorem xw_sipush (C : tj_C Γ l0 D0 cls0 nL0 cc own fr lo Ts tys NL) {n : Int} {v : Int32} (hdg : decode cc pc = .ok (.sipush n, 3)) (hv0 : (Int16.ofInt n).toInt32 = v) (kk : tj_W Γ cw σ lv (pc + 3) (.int v :: st)) : tj_W Γ cw σ lv pc (st) := by
  obtain ⟨p, l, e, R, s, m, args, below, meth, c, A, H0, cells, slots, Q, D, cls, nL⟩ := Γ
  obtain ⟨hx, hb, hml, hown, hts, hK, hN, hA, hfr, hlo, hce, hsl, rfl, rfl, rfl, rfl⟩ := C
  intro H locs ls hP hD hS hv
  exact lv_sipush hx hb hdg hv0 (kk H locs ls hP hD hS hv)
theorem xw_ldc (C : tj_C Γ l0 D0 cls0 nL0 cc own fr lo Ts tys NL) {index : Nat} {v : Int32} (hc : Jvm.Cond.constant own index v ∈ Ts) (hdg : decode cc pc = .ok (.ldc index, 2)) (kk : tj_W Γ cw σ lv (pc + 2) (.int v :: st)) : tj_W Γ cw σ lv pc (st) := by
  obtain ⟨p, l, e, R, s, m, args, below, meth, c, A, H0, cells, slots, Q, D, cls, nL⟩ := Γ
  obtain ⟨hx, hb, hml, hown, hts, hK, hN, hA, hfr, hlo, hce, hsl, rfl, rfl, rfl, rfl⟩ := C
  intro H locs ls hP hD hS hv
  exact lv_ldc hx hb hown (hts _ hc) hdg (kk H locs ls hP hD hS hv)
theorem xw_ldcw (C : tj_C Γ l0 D0 cls0 nL0 cc own fr lo Ts tys NL) {index : Nat} {v : Int32} (hc : Jvm.Cond.constant own index v ∈ Ts) (hdg : decode cc pc = .ok (.ldc_w index, 3)) (kk : tj_W Γ cw σ lv (pc + 3) (.int v :: st)) : tj_W Γ cw σ lv pc (st) := by
  obtain ⟨p, l, e, R, s, m, args, below, meth, c, A, H0, cells, slots, Q, D, cls, nL⟩ := Γ
  obtain ⟨hx, hb, hml, hown, hts, hK, hN, hA, hfr, hlo, hce, hsl, rfl, rfl, rfl, rfl⟩ := C
  intro H locs ls hP hD hS hv
  exact lv_ldcw hx hb hown (hts _ hc) hdg (kk H locs ls hP hD hS hv)
theorem xw_iload_n (C : tj_C Γ l0 D0 cls0 nL0 cc own fr lo Ts tys NL) {k : Fin 4} {x : Int32} (hdg : decode cc pc = .ok (.iload_n k, 1)) (j : Nat) (hl : lv[j]? = some ((k : Nat), .int x)) (kk : tj_W Γ cw σ lv (pc + 1) (.int x :: st)) : tj_W Γ cw σ lv pc (st) := by
  obtain ⟨p, l, e, R, s, m, args, below, meth, c, A, H0, cells, slots, Q, D, cls, nL⟩ := Γ
  obtain ⟨hx, hb, hml, hown, hts, hK, hN, hA, hfr, hlo, hce, hsl, rfl, rfl, rfl, rfl⟩ := C
  intro H locs ls hP hD hS hv
  exact lv_iload_n hx hb hdg rfl (lv_at hv j hl) (kk H locs ls hP hD hS hv)
theorem xw_iload (C : tj_C Γ l0 D0 cls0 nL0 cc own fr lo Ts tys NL) {i : Nat} {x : Int32} (hdg : decode cc pc = .ok (.iload i, 2)) (j : Nat) (hl : lv[j]? = some (i, .int x)) (kk : tj_W Γ cw σ lv (pc + 2) (.int x :: st)) : tj_W Γ cw σ lv pc (st) := by
  obtain ⟨p, l, e, R, s, m, args, below, meth, c, A, H0, cells, slots, Q, D, cls, nL⟩ := Γ
  obtain ⟨hx, hb, hml, hown, hts, hK, hN, hA, hfr, hlo, hce, hsl, rfl, rfl, rfl, rfl⟩ := C
  intro H locs ls hP hD hS hv
  exact lv_iload hx hb hdg (lv_at hv j hl) (kk H locs ls hP hD hS hv)
theorem xw_aload_n (C : tj_C Γ l0 D0 cls0 nL0 cc own fr lo Ts tys NL) {k : Fin 4} {x : Nat} (hdg : decode cc pc = .ok (.aload_n k, 1)) (j : Nat) (hl : lv[j]? = some ((k : Nat), .ref x)) (kk : tj_W Γ cw σ lv (pc + 1) (.ref x :: st)) : tj_W Γ cw σ lv pc (st) := by
  obtain ⟨p, l, e, R, s, m, args, below, meth, c, A, H0, cells, slots, Q, D, cls, nL⟩ := Γ
  obtain ⟨hx, hb, hml, hown, hts, hK, hN, hA, hfr, hlo, hce, hsl, rfl, rfl, rfl, rfl⟩ := C
  intro H locs ls hP hD hS hv
  exact lv_aload_n hx hb hdg rfl (lv_at hv j hl) (kk H locs ls hP hD hS hv)
theorem xw_aload (C : tj_C Γ l0 D0 cls0 nL0 cc own fr lo Ts tys NL) {i : Nat} {x : Nat} (hdg : decode cc pc = .ok (.aload i, 2)) (j : Nat) (hl : lv[j]? = some (i, .ref x)) (kk : tj_W Γ cw σ lv (pc + 2) (.ref x :: st)) : tj_W Γ cw σ lv pc (st) := by
  obtain ⟨p, l, e, R, s, m, args, below, meth, c, A, H0, cells, slots, Q, D, cls, nL⟩ := Γ
  obtain ⟨hx, hb, hml, hown, hts, hK, hN, hA, hfr, hlo, hce, hsl, rfl, rfl, rfl, rfl⟩ := C
  intro H locs ls hP hD hS hv
  exact lv_aload hx hb hdg (lv_at hv j hl) (kk H locs ls hP hD hS hv)
theorem xw_istore_n (C : tj_C Γ l0 D0 cls0 nL0 cc own fr lo Ts tys NL) {k : Fin 4} {i : Nat} {x : Int32} {lv1 : List (Nat × Value)} (hdg : decode cc pc = .ok (.istore_n k, 1)) (hi : (k : Nat) = i) (hn : i < nL0) (hl : (i, Value.int x) :: lv.filter (fun q => !(q.1 == i) && !(q.1 + 1 == i && q.2.category == 2)) = lv1) (kk : tj_W Γ cw σ lv1 (pc + 1) (st)) : tj_W Γ cw σ lv pc (.int x :: st) := by
  obtain ⟨p, l, e, R, s, m, args, below, meth, c, A, H0, cells, slots, Q, D, cls, nL⟩ := Γ
  obtain ⟨hx, hb, hml, hown, hts, hK, hN, hA, hfr, hlo, hce, hsl, rfl, rfl, rfl, rfl⟩ := C
  intro H locs ls hP hD hS hv
  exact lv_istore_n hx hb hdg hi hv hn hl (fun ls1 hv1 => kk H locs ls1 hP hD hS hv1)
theorem xw_istore (C : tj_C Γ l0 D0 cls0 nL0 cc own fr lo Ts tys NL) {i : Nat} {x : Int32} {lv1 : List (Nat × Value)} (hdg : decode cc pc = .ok (.istore i, 2)) (hn : i < nL0) (hl : (i, Value.int x) :: lv.filter (fun q => !(q.1 == i) && !(q.1 + 1 == i && q.2.category == 2)) = lv1) (kk : tj_W Γ cw σ lv1 (pc + 2) (st)) : tj_W Γ cw σ lv pc (.int x :: st) := by
  obtain ⟨p, l, e, R, s, m, args, below, meth, c, A, H0, cells, slots, Q, D, cls, nL⟩ := Γ
  obtain ⟨hx, hb, hml, hown, hts, hK, hN, hA, hfr, hlo, hce, hsl, rfl, rfl, rfl, rfl⟩ := C
  intro H locs ls hP hD hS hv
  exact lv_istore hx hb hdg hv hn hl (fun ls1 hv1 => kk H locs ls1 hP hD hS hv1)
theorem xw_astore_n (C : tj_C Γ l0 D0 cls0 nL0 cc own fr lo Ts tys NL) {k : Fin 4} {i : Nat} {x : Nat} {lv1 : List (Nat × Value)} (hdg : decode cc pc = .ok (.astore_n k, 1)) (hi : (k : Nat) = i) (hn : i < nL0) (hl : (i, Value.ref x) :: lv.filter (fun q => !(q.1 == i) && !(q.1 + 1 == i && q.2.category == 2)) = lv1) (kk : tj_W Γ cw σ lv1 (pc + 1) (st)) : tj_W Γ cw σ lv pc (.ref x :: st) := by
  obtain ⟨p, l, e, R, s, m, args, below, meth, c, A, H0, cells, slots, Q, D, cls, nL⟩ := Γ
  obtain ⟨hx, hb, hml, hown, hts, hK, hN, hA, hfr, hlo, hce, hsl, rfl, rfl, rfl, rfl⟩ := C
  intro H locs ls hP hD hS hv
  exact lv_astore_n hx hb hdg hi hv hn hl (fun ls1 hv1 => kk H locs ls1 hP hD hS hv1)
theorem xw_iinc (C : tj_C Γ l0 D0 cls0 nL0 cc own fr lo Ts tys NL) {α : Type} {i : Nat} {n : Int} {x : Int32} {kf : Int32 → Option α} {r : α} (h : nm (x + Int32.ofInt n) kf = some r) (lv1 : Int32 → List (Nat × Value)) (hdg : decode cc pc = .ok (.iinc i n, 3)) (j : Nat) (hk : lv[j]? = some (i, .int x)) (hn : i < nL0) (hl : ∀ v : Int32, (i, Value.int v) :: lv.filter (fun q => !(q.1 == i) && !(q.1 + 1 == i && q.2.category == 2)) = lv1 v) (kk : ∀ v : Int32, kf v = some r → tj_W Γ cw σ (lv1 v) (pc + 3) st) : tj_W Γ cw σ lv pc (st) := by
  obtain ⟨p, l, e, R, s, m, args, below, meth, c, A, H0, cells, slots, Q, D, cls, nL⟩ := Γ
  obtain ⟨hx, hb, hml, hown, hts, hK, hN, hA, hfr, hlo, hce, hsl, rfl, rfl, rfl, rfl⟩ := C
  intro H locs ls hP hD hS hv
  exact lv_iinc hx hb hdg hv hk rfl hn (hl _) (fun ls1 hv1 => kk _ h H locs ls1 hP hD hS hv1)
theorem xw_iadd (C : tj_C Γ l0 D0 cls0 nL0 cc own fr lo Ts tys NL) {x y : Int32} (hdg : decode cc pc = .ok (.iadd, 1)) (kk : tj_W Γ cw σ lv (pc + 1) (.int (x + y) :: st)) : tj_W Γ cw σ lv pc (.int y :: .int x :: st) := by
  obtain ⟨p, l, e, R, s, m, args, below, meth, c, A, H0, cells, slots, Q, D, cls, nL⟩ := Γ
  obtain ⟨hx, hb, hml, hown, hts, hK, hN, hA, hfr, hlo, hce, hsl, rfl, rfl, rfl, rfl⟩ := C
  intro H locs ls hP hD hS hv
  exact lv_iadd hx hb hdg (kk H locs ls hP hD hS hv)
theorem xw_isub (C : tj_C Γ l0 D0 cls0 nL0 cc own fr lo Ts tys NL) {x y : Int32} (hdg : decode cc pc = .ok (.isub, 1)) (kk : tj_W Γ cw σ lv (pc + 1) (.int (x - y) :: st)) : tj_W Γ cw σ lv pc (.int y :: .int x :: st) := by
  obtain ⟨p, l, e, R, s, m, args, below, meth, c, A, H0, cells, slots, Q, D, cls, nL⟩ := Γ
  obtain ⟨hx, hb, hml, hown, hts, hK, hN, hA, hfr, hlo, hce, hsl, rfl, rfl, rfl, rfl⟩ := C
  intro H locs ls hP hD hS hv
  exact lv_isub hx hb hdg (kk H locs ls hP hD hS hv)
theorem xw_imul (C : tj_C Γ l0 D0 cls0 nL0 cc own fr lo Ts tys NL) {x y : Int32} (hdg : decode cc pc = .ok (.imul, 1)) (kk : tj_W Γ cw σ lv (pc + 1) (.int (x * y) :: st)) : tj_W Γ cw σ lv pc (.int y :: .int x :: st) := by
  obtain ⟨p, l, e, R, s, m, args, below, meth, c, A, H0, cells, slots, Q, D, cls, nL⟩ := Γ
  obtain ⟨hx, hb, hml, hown, hts, hK, hN, hA, hfr, hlo, hce, hsl, rfl, rfl, rfl, rfl⟩ := C
  intro H locs ls hP hD hS hv
  exact lv_imul hx hb hdg (kk H locs ls hP hD hS hv)
theorem xw_iand (C : tj_C Γ l0 D0 cls0 nL0 cc own fr lo Ts tys NL) {x y : Int32} (hdg : decode cc pc = .ok (.iand, 1)) (kk : tj_W Γ cw σ lv (pc + 1) (.int (x &&& y) :: st)) : tj_W Γ cw σ lv pc (.int y :: .int x :: st) := by
  obtain ⟨p, l, e, R, s, m, args, below, meth, c, A, H0, cells, slots, Q, D, cls, nL⟩ := Γ
  obtain ⟨hx, hb, hml, hown, hts, hK, hN, hA, hfr, hlo, hce, hsl, rfl, rfl, rfl, rfl⟩ := C
  intro H locs ls hP hD hS hv
  exact lv_iand hx hb hdg (kk H locs ls hP hD hS hv)
theorem xw_ior (C : tj_C Γ l0 D0 cls0 nL0 cc own fr lo Ts tys NL) {x y : Int32} (hdg : decode cc pc = .ok (.ior, 1)) (kk : tj_W Γ cw σ lv (pc + 1) (.int (x ||| y) :: st)) : tj_W Γ cw σ lv pc (.int y :: .int x :: st) := by
  obtain ⟨p, l, e, R, s, m, args, below, meth, c, A, H0, cells, slots, Q, D, cls, nL⟩ := Γ
  obtain ⟨hx, hb, hml, hown, hts, hK, hN, hA, hfr, hlo, hce, hsl, rfl, rfl, rfl, rfl⟩ := C
  intro H locs ls hP hD hS hv
  exact lv_ior hx hb hdg (kk H locs ls hP hD hS hv)
theorem xw_ixor (C : tj_C Γ l0 D0 cls0 nL0 cc own fr lo Ts tys NL) {x y : Int32} (hdg : decode cc pc = .ok (.ixor, 1)) (kk : tj_W Γ cw σ lv (pc + 1) (.int (x ^^^ y) :: st)) : tj_W Γ cw σ lv pc (.int y :: .int x :: st) := by
  obtain ⟨p, l, e, R, s, m, args, below, meth, c, A, H0, cells, slots, Q, D, cls, nL⟩ := Γ
  obtain ⟨hx, hb, hml, hown, hts, hK, hN, hA, hfr, hlo, hce, hsl, rfl, rfl, rfl, rfl⟩ := C
  intro H locs ls hP hD hS hv
  exact lv_ixor hx hb hdg (kk H locs ls hP hD hS hv)
theorem xw_ishl (C : tj_C Γ l0 D0 cls0 nL0 cc own fr lo Ts tys NL) {x y : Int32} (hdg : decode cc pc = .ok (.ishl, 1)) (kk : tj_W Γ cw σ lv (pc + 1) (.int (x <<< (y &&& 31)) :: st)) : tj_W Γ cw σ lv pc (.int y :: .int x :: st) := by
  obtain ⟨p, l, e, R, s, m, args, below, meth, c, A, H0, cells, slots, Q, D, cls, nL⟩ := Γ
  obtain ⟨hx, hb, hml, hown, hts, hK, hN, hA, hfr, hlo, hce, hsl, rfl, rfl, rfl, rfl⟩ := C
  intro H locs ls hP hD hS hv
  exact lv_ishl hx hb hdg (kk H locs ls hP hD hS hv)
theorem xw_ishr (C : tj_C Γ l0 D0 cls0 nL0 cc own fr lo Ts tys NL) {x y : Int32} (hdg : decode cc pc = .ok (.ishr, 1)) (kk : tj_W Γ cw σ lv (pc + 1) (.int (x >>> (y &&& 31)) :: st)) : tj_W Γ cw σ lv pc (.int y :: .int x :: st) := by
  obtain ⟨p, l, e, R, s, m, args, below, meth, c, A, H0, cells, slots, Q, D, cls, nL⟩ := Γ
  obtain ⟨hx, hb, hml, hown, hts, hK, hN, hA, hfr, hlo, hce, hsl, rfl, rfl, rfl, rfl⟩ := C
  intro H locs ls hP hD hS hv
  exact lv_ishr hx hb hdg (kk H locs ls hP hD hS hv)
theorem xw_iushr (C : tj_C Γ l0 D0 cls0 nL0 cc own fr lo Ts tys NL) {x y : Int32} (hdg : decode cc pc = .ok (.iushr, 1)) (kk : tj_W Γ cw σ lv (pc + 1) (.int ((x.toUInt32 >>> (y.toUInt32 &&& Int32.toUInt32 31)).toInt32) :: st)) : tj_W Γ cw σ lv pc (.int y :: .int x :: st) := by
  obtain ⟨p, l, e, R, s, m, args, below, meth, c, A, H0, cells, slots, Q, D, cls, nL⟩ := Γ
  obtain ⟨hx, hb, hml, hown, hts, hK, hN, hA, hfr, hlo, hce, hsl, rfl, rfl, rfl, rfl⟩ := C
  intro H locs ls hP hD hS hv
  exact lv_iushr hx hb hdg rfl (kk H locs ls hP hD hS hv)
theorem xw_idiv (C : tj_C Γ l0 D0 cls0 nL0 cc own fr lo Ts tys NL) {x y : Int32} (hdg : decode cc pc = .ok (.idiv, 1)) (hne : ¬ y = 0) (kk : tj_W Γ cw σ lv (pc + 1) (.int (x / y) :: st)) : tj_W Γ cw σ lv pc (.int y :: .int x :: st) := by
  obtain ⟨p, l, e, R, s, m, args, below, meth, c, A, H0, cells, slots, Q, D, cls, nL⟩ := Γ
  obtain ⟨hx, hb, hml, hown, hts, hK, hN, hA, hfr, hlo, hce, hsl, rfl, rfl, rfl, rfl⟩ := C
  intro H locs ls hP hD hS hv
  exact lv_idiv hx hb hdg hne (kk H locs ls hP hD hS hv)
theorem xw_irem (C : tj_C Γ l0 D0 cls0 nL0 cc own fr lo Ts tys NL) {x y : Int32} (hdg : decode cc pc = .ok (.irem, 1)) (hne : ¬ y = 0) (kk : tj_W Γ cw σ lv (pc + 1) (.int (x - x / y * y) :: st)) : tj_W Γ cw σ lv pc (.int y :: .int x :: st) := by
  obtain ⟨p, l, e, R, s, m, args, below, meth, c, A, H0, cells, slots, Q, D, cls, nL⟩ := Γ
  obtain ⟨hx, hb, hml, hown, hts, hK, hN, hA, hfr, hlo, hce, hsl, rfl, rfl, rfl, rfl⟩ := C
  intro H locs ls hP hD hS hv
  exact lv_irem hx hb hdg hne (kk H locs ls hP hD hS hv)
theorem xw_ineg (C : tj_C Γ l0 D0 cls0 nL0 cc own fr lo Ts tys NL) {x : Int32} (hdg : decode cc pc = .ok (.ineg, 1)) (kk : tj_W Γ cw σ lv (pc + 1) (.int (-x) :: st)) : tj_W Γ cw σ lv pc (.int x :: st) := by
  obtain ⟨p, l, e, R, s, m, args, below, meth, c, A, H0, cells, slots, Q, D, cls, nL⟩ := Γ
  obtain ⟨hx, hb, hml, hown, hts, hK, hN, hA, hfr, hlo, hce, hsl, rfl, rfl, rfl, rfl⟩ := C
  intro H locs ls hP hD hS hv
  exact lv_ineg hx hb hdg (kk H locs ls hP hD hS hv)
theorem xw_dup (C : tj_C Γ l0 D0 cls0 nL0 cc own fr lo Ts tys NL) {v : Value} (hdg : decode cc pc = .ok (.dup, 1)) (hc : v.category = 1) (kk : tj_W Γ cw σ lv (pc + 1) (v :: v :: st)) : tj_W Γ cw σ lv pc (v :: st) := by
  obtain ⟨p, l, e, R, s, m, args, below, meth, c, A, H0, cells, slots, Q, D, cls, nL⟩ := Γ
  obtain ⟨hx, hb, hml, hown, hts, hK, hN, hA, hfr, hlo, hce, hsl, rfl, rfl, rfl, rfl⟩ := C
  intro H locs ls hP hD hS hv
  exact lv_dup hx hb hdg hc (kk H locs ls hP hD hS hv)
theorem xw_pop (C : tj_C Γ l0 D0 cls0 nL0 cc own fr lo Ts tys NL) {v : Value} (hdg : decode cc pc = .ok (.pop, 1)) (hc : v.category = 1) (kk : tj_W Γ cw σ lv (pc + 1) (st)) : tj_W Γ cw σ lv pc (v :: st) := by
  obtain ⟨p, l, e, R, s, m, args, below, meth, c, A, H0, cells, slots, Q, D, cls, nL⟩ := Γ
  obtain ⟨hx, hb, hml, hown, hts, hK, hN, hA, hfr, hlo, hce, hsl, rfl, rfl, rfl, rfl⟩ := C
  intro H locs ls hP hD hS hv
  exact lv_pop hx hb hdg hc (kk H locs ls hP hD hS hv)
theorem xw_dup2 (C : tj_C Γ l0 D0 cls0 nL0 cc own fr lo Ts tys NL) {v w : Value} (hdg : decode cc pc = .ok (.dup2, 1)) (hc : v.category = 1) (hc2 : w.category = 1) (kk : tj_W Γ cw σ lv (pc + 1) (v :: w :: v :: w :: st)) : tj_W Γ cw σ lv pc (v :: w :: st) := by
  obtain ⟨p, l, e, R, s, m, args, below, meth, c, A, H0, cells, slots, Q, D, cls, nL⟩ := Γ
  obtain ⟨hx, hb, hml, hown, hts, hK, hN, hA, hfr, hlo, hce, hsl, rfl, rfl, rfl, rfl⟩ := C
  intro H locs ls hP hD hS hv
  exact lv_dup2_11 hx hb hdg hc hc2 (kk H locs ls hP hD hS hv)
theorem xw_dup_x1 (C : tj_C Γ l0 D0 cls0 nL0 cc own fr lo Ts tys NL) {v w : Value} (hdg : decode cc pc = .ok (.dup_x1, 1)) (hc : v.category = 1) (hc2 : w.category = 1) (kk : tj_W Γ cw σ lv (pc + 1) (v :: w :: v :: st)) : tj_W Γ cw σ lv pc (v :: w :: st) := by
  obtain ⟨p, l, e, R, s, m, args, below, meth, c, A, H0, cells, slots, Q, D, cls, nL⟩ := Γ
  obtain ⟨hx, hb, hml, hown, hts, hK, hN, hA, hfr, hlo, hce, hsl, rfl, rfl, rfl, rfl⟩ := C
  intro H locs ls hP hD hS hv
  exact lv_dup_x1 hx hb hdg hc hc2 (kk H locs ls hP hD hS hv)
theorem xw_if_eq (C : tj_C Γ l0 D0 cls0 nL0 cc own fr lo Ts tys NL) {x : Int32} {off : Int} {tgt : Nat} (hdg : decode cc pc = .ok (.ifCond .eq off, 3)) (ht : (pc : Int) + off = (tgt : Int)) (kt : x = 0 → tj_W Γ cw σ lv (tgt) (st)) (kf : ¬ x = 0 → tj_W Γ cw σ lv (pc + 3) (st)) : tj_W Γ cw σ lv pc (.int x :: st) := by
  obtain ⟨p, l, e, R, s, m, args, below, meth, c, A, H0, cells, slots, Q, D, cls, nL⟩ := Γ
  obtain ⟨hx, hb, hml, hown, hts, hK, hN, hA, hfr, hlo, hce, hsl, rfl, rfl, rfl, rfl⟩ := C
  intro H locs ls hP hD hS hv
  exact lv_if_eq hx hb hdg ht (fun h => kt h H locs ls hP hD hS hv) (fun h => kf h H locs ls hP hD hS hv)
theorem xw_if_ne (C : tj_C Γ l0 D0 cls0 nL0 cc own fr lo Ts tys NL) {x : Int32} {off : Int} {tgt : Nat} (hdg : decode cc pc = .ok (.ifCond .ne off, 3)) (ht : (pc : Int) + off = (tgt : Int)) (kt : ¬ x = 0 → tj_W Γ cw σ lv (tgt) (st)) (kf : x = 0 → tj_W Γ cw σ lv (pc + 3) (st)) : tj_W Γ cw σ lv pc (.int x :: st) := by
  obtain ⟨p, l, e, R, s, m, args, below, meth, c, A, H0, cells, slots, Q, D, cls, nL⟩ := Γ
  obtain ⟨hx, hb, hml, hown, hts, hK, hN, hA, hfr, hlo, hce, hsl, rfl, rfl, rfl, rfl⟩ := C
  intro H locs ls hP hD hS hv
  exact lv_if_ne hx hb hdg ht (fun h => kt h H locs ls hP hD hS hv) (fun h => kf h H locs ls hP hD hS hv)
theorem xw_if_lt (C : tj_C Γ l0 D0 cls0 nL0 cc own fr lo Ts tys NL) {x : Int32} {off : Int} {tgt : Nat} (hdg : decode cc pc = .ok (.ifCond .lt off, 3)) (ht : (pc : Int) + off = (tgt : Int)) (kt : x < 0 → tj_W Γ cw σ lv (tgt) (st)) (kf : ¬ x < 0 → tj_W Γ cw σ lv (pc + 3) (st)) : tj_W Γ cw σ lv pc (.int x :: st) := by
  obtain ⟨p, l, e, R, s, m, args, below, meth, c, A, H0, cells, slots, Q, D, cls, nL⟩ := Γ
  obtain ⟨hx, hb, hml, hown, hts, hK, hN, hA, hfr, hlo, hce, hsl, rfl, rfl, rfl, rfl⟩ := C
  intro H locs ls hP hD hS hv
  exact lv_if_lt hx hb hdg ht (fun h => kt h H locs ls hP hD hS hv) (fun h => kf h H locs ls hP hD hS hv)
theorem xw_if_ge (C : tj_C Γ l0 D0 cls0 nL0 cc own fr lo Ts tys NL) {x : Int32} {off : Int} {tgt : Nat} (hdg : decode cc pc = .ok (.ifCond .ge off, 3)) (ht : (pc : Int) + off = (tgt : Int)) (kt : 0 ≤ x → tj_W Γ cw σ lv (tgt) (st)) (kf : ¬ 0 ≤ x → tj_W Γ cw σ lv (pc + 3) (st)) : tj_W Γ cw σ lv pc (.int x :: st) := by
  obtain ⟨p, l, e, R, s, m, args, below, meth, c, A, H0, cells, slots, Q, D, cls, nL⟩ := Γ
  obtain ⟨hx, hb, hml, hown, hts, hK, hN, hA, hfr, hlo, hce, hsl, rfl, rfl, rfl, rfl⟩ := C
  intro H locs ls hP hD hS hv
  exact lv_if_ge hx hb hdg ht (fun h => kt h H locs ls hP hD hS hv) (fun h => kf h H locs ls hP hD hS hv)
theorem xw_if_gt (C : tj_C Γ l0 D0 cls0 nL0 cc own fr lo Ts tys NL) {x : Int32} {off : Int} {tgt : Nat} (hdg : decode cc pc = .ok (.ifCond .gt off, 3)) (ht : (pc : Int) + off = (tgt : Int)) (kt : 0 < x → tj_W Γ cw σ lv (tgt) (st)) (kf : ¬ 0 < x → tj_W Γ cw σ lv (pc + 3) (st)) : tj_W Γ cw σ lv pc (.int x :: st) := by
  obtain ⟨p, l, e, R, s, m, args, below, meth, c, A, H0, cells, slots, Q, D, cls, nL⟩ := Γ
  obtain ⟨hx, hb, hml, hown, hts, hK, hN, hA, hfr, hlo, hce, hsl, rfl, rfl, rfl, rfl⟩ := C
  intro H locs ls hP hD hS hv
  exact lv_if_gt hx hb hdg ht (fun h => kt h H locs ls hP hD hS hv) (fun h => kf h H locs ls hP hD hS hv)
theorem xw_if_le (C : tj_C Γ l0 D0 cls0 nL0 cc own fr lo Ts tys NL) {x : Int32} {off : Int} {tgt : Nat} (hdg : decode cc pc = .ok (.ifCond .le off, 3)) (ht : (pc : Int) + off = (tgt : Int)) (kt : x ≤ 0 → tj_W Γ cw σ lv (tgt) (st)) (kf : ¬ x ≤ 0 → tj_W Γ cw σ lv (pc + 3) (st)) : tj_W Γ cw σ lv pc (.int x :: st) := by
  obtain ⟨p, l, e, R, s, m, args, below, meth, c, A, H0, cells, slots, Q, D, cls, nL⟩ := Γ
  obtain ⟨hx, hb, hml, hown, hts, hK, hN, hA, hfr, hlo, hce, hsl, rfl, rfl, rfl, rfl⟩ := C
  intro H locs ls hP hD hS hv
  exact lv_if_le hx hb hdg ht (fun h => kt h H locs ls hP hD hS hv) (fun h => kf h H locs ls hP hD hS hv)
theorem xw_icmp_eq (C : tj_C Γ l0 D0 cls0 nL0 cc own fr lo Ts tys NL) {x y : Int32} {off : Int} {tgt : Nat} (hdg : decode cc pc = .ok (.if_icmp .eq off, 3)) (ht : (pc : Int) + off = (tgt : Int)) (kt : x = y → tj_W Γ cw σ lv (tgt) (st)) (kf : ¬ x = y → tj_W Γ cw σ lv (pc + 3) (st)) : tj_W Γ cw σ lv pc (.int y :: .int x :: st) := by
  obtain ⟨p, l, e, R, s, m, args, below, meth, c, A, H0, cells, slots, Q, D, cls, nL⟩ := Γ
  obtain ⟨hx, hb, hml, hown, hts, hK, hN, hA, hfr, hlo, hce, hsl, rfl, rfl, rfl, rfl⟩ := C
  intro H locs ls hP hD hS hv
  exact lv_icmp_eq hx hb hdg ht (fun h => kt h H locs ls hP hD hS hv) (fun h => kf h H locs ls hP hD hS hv)
theorem xw_icmp_ne (C : tj_C Γ l0 D0 cls0 nL0 cc own fr lo Ts tys NL) {x y : Int32} {off : Int} {tgt : Nat} (hdg : decode cc pc = .ok (.if_icmp .ne off, 3)) (ht : (pc : Int) + off = (tgt : Int)) (kt : ¬ x = y → tj_W Γ cw σ lv (tgt) (st)) (kf : x = y → tj_W Γ cw σ lv (pc + 3) (st)) : tj_W Γ cw σ lv pc (.int y :: .int x :: st) := by
  obtain ⟨p, l, e, R, s, m, args, below, meth, c, A, H0, cells, slots, Q, D, cls, nL⟩ := Γ
  obtain ⟨hx, hb, hml, hown, hts, hK, hN, hA, hfr, hlo, hce, hsl, rfl, rfl, rfl, rfl⟩ := C
  intro H locs ls hP hD hS hv
  exact lv_icmp_ne hx hb hdg ht (fun h => kt h H locs ls hP hD hS hv) (fun h => kf h H locs ls hP hD hS hv)
theorem xw_icmp_lt (C : tj_C Γ l0 D0 cls0 nL0 cc own fr lo Ts tys NL) {x y : Int32} {off : Int} {tgt : Nat} (hdg : decode cc pc = .ok (.if_icmp .lt off, 3)) (ht : (pc : Int) + off = (tgt : Int)) (kt : x < y → tj_W Γ cw σ lv (tgt) (st)) (kf : ¬ x < y → tj_W Γ cw σ lv (pc + 3) (st)) : tj_W Γ cw σ lv pc (.int y :: .int x :: st) := by
  obtain ⟨p, l, e, R, s, m, args, below, meth, c, A, H0, cells, slots, Q, D, cls, nL⟩ := Γ
  obtain ⟨hx, hb, hml, hown, hts, hK, hN, hA, hfr, hlo, hce, hsl, rfl, rfl, rfl, rfl⟩ := C
  intro H locs ls hP hD hS hv
  exact lv_icmp_lt hx hb hdg ht (fun h => kt h H locs ls hP hD hS hv) (fun h => kf h H locs ls hP hD hS hv)
theorem xw_icmp_ge (C : tj_C Γ l0 D0 cls0 nL0 cc own fr lo Ts tys NL) {x y : Int32} {off : Int} {tgt : Nat} (hdg : decode cc pc = .ok (.if_icmp .ge off, 3)) (ht : (pc : Int) + off = (tgt : Int)) (kt : y ≤ x → tj_W Γ cw σ lv (tgt) (st)) (kf : ¬ y ≤ x → tj_W Γ cw σ lv (pc + 3) (st)) : tj_W Γ cw σ lv pc (.int y :: .int x :: st) := by
  obtain ⟨p, l, e, R, s, m, args, below, meth, c, A, H0, cells, slots, Q, D, cls, nL⟩ := Γ
  obtain ⟨hx, hb, hml, hown, hts, hK, hN, hA, hfr, hlo, hce, hsl, rfl, rfl, rfl, rfl⟩ := C
  intro H locs ls hP hD hS hv
  exact lv_icmp_ge hx hb hdg ht (fun h => kt h H locs ls hP hD hS hv) (fun h => kf h H locs ls hP hD hS hv)
theorem xw_icmp_gt (C : tj_C Γ l0 D0 cls0 nL0 cc own fr lo Ts tys NL) {x y : Int32} {off : Int} {tgt : Nat} (hdg : decode cc pc = .ok (.if_icmp .gt off, 3)) (ht : (pc : Int) + off = (tgt : Int)) (kt : y < x → tj_W Γ cw σ lv (tgt) (st)) (kf : ¬ y < x → tj_W Γ cw σ lv (pc + 3) (st)) : tj_W Γ cw σ lv pc (.int y :: .int x :: st) := by
  obtain ⟨p, l, e, R, s, m, args, below, meth, c, A, H0, cells, slots, Q, D, cls, nL⟩ := Γ
  obtain ⟨hx, hb, hml, hown, hts, hK, hN, hA, hfr, hlo, hce, hsl, rfl, rfl, rfl, rfl⟩ := C
  intro H locs ls hP hD hS hv
  exact lv_icmp_gt hx hb hdg ht (fun h => kt h H locs ls hP hD hS hv) (fun h => kf h H locs ls hP hD hS hv)
theorem xw_icmp_le (C : tj_C Γ l0 D0 cls0 nL0 cc own fr lo Ts tys NL) {x y : Int32} {off : Int} {tgt : Nat} (hdg : decode cc pc = .ok (.if_icmp .le off, 3)) (ht : (pc : Int) + off = (tgt : Int)) (kt : x ≤ y → tj_W Γ cw σ lv (tgt) (st)) (kf : ¬ x ≤ y → tj_W Γ cw σ lv (pc + 3) (st)) : tj_W Γ cw σ lv pc (.int y :: .int x :: st) := by
  obtain ⟨p, l, e, R, s, m, args, below, meth, c, A, H0, cells, slots, Q, D, cls, nL⟩ := Γ
  obtain ⟨hx, hb, hml, hown, hts, hK, hN, hA, hfr, hlo, hce, hsl, rfl, rfl, rfl, rfl⟩ := C
  intro H locs ls hP hD hS hv
  exact lv_icmp_le hx hb hdg ht (fun h => kt h H locs ls hP hD hS hv) (fun h => kf h H locs ls hP hD hS hv)
theorem xw_goto (C : tj_C Γ l0 D0 cls0 nL0 cc own fr lo Ts tys NL) {off : Int} {tgt : Nat} (hdg : decode cc pc = .ok (.goto off, 3)) (ht : (pc : Int) + off = (tgt : Int)) (kk : tj_W Γ cw σ lv (tgt) (st)) : tj_W Γ cw σ lv pc st := by
  obtain ⟨p, l, e, R, s, m, args, below, meth, c, A, H0, cells, slots, Q, D, cls, nL⟩ := Γ
  obtain ⟨hx, hb, hml, hown, hts, hK, hN, hA, hfr, hlo, hce, hsl, rfl, rfl, rfl, rfl⟩ := C
  intro H locs ls hP hD hS hv
  exact lv_goto hx hb hdg ht (kk H locs ls hP hD hS hv)
def tj_F (Cn : String) (T : u_T) (N : Nat) (ty0 : Nat → FieldType) (Ts : List Cond) : Prop := (∀ w ∈ u_ws Cn T N, w ∈ Ts) ∧ (∀ k, k < N → parseFieldDescriptor (T k).2.2.1 = some (ty0 k)) ∧ (∀ a, a < N → ∀ b, b < N → a ≠ b → (T a).2.1 ≠ (T b).2.1)
theorem xw_get (C : tj_C Γ l0 D0 cls0 nL0 cc own fr lo Ts tys NL) {Cn : String} {T : u_T} {N ci index a : Nat} {ty0 : Nat → FieldType} {fs : List Value} (F : tj_F Cn T N ty0 Ts) (q0 : Nat) (he : (cw σ)[q0]? = some (a, .inr (ci, fs))) (hc : cls0[ci]? = some (Cn, T, N)) (k : Nat) (hk : k < N) (hlink : Cond.fieldLink own index (T k).1 (T k).2.1 (T k).2.2.1 ∈ Ts) {v : Value} (hv0 : fs[k]? = some v) (hdg : decode cc pc = .ok (.getfield index, 3)) (kk : tj_W Γ cw σ lv (pc + 3) (v :: st)) : tj_W Γ cw σ lv pc (.ref a :: st) := by
  obtain ⟨p, l, e, R, s, m, args, below, meth, c, A, H0, cells, slots, Q, D, cls, nL⟩ := Γ
  obtain ⟨hx, hb, hml, hown, hts, hK, hN, hA, hfr, hlo, hce, hsl, rfl, rfl, rfl, rfl⟩ := C
  intro H locs ls hP hD hS hv
  exact va_get hx hb hts F.1 hown hK hP q0 he hc k hk (hts _ hlink) (fun _ h9 => h9) hv0 hdg (kk H locs ls hP hD hS hv)
theorem xw_getN (C : tj_C Γ l0 D0 cls0 nL0 cc own fr lo Ts tys NL) {Cn : String} {T : u_T} {N ci index a : Nat} {ty0 : Nat → FieldType} {fs : List Value} (F : tj_F Cn T N ty0 Ts) (q0 : Nat) (he : (cw σ)[q0]? = some (a, .inr (ci, fs))) (hc : cls0[ci]? = some (Cn, T, N)) (k : Nat) (hk : k < N) (host : String) (hlink : Cond.fieldLinkNest own index (T k).1 (T k).2.1 (T k).2.2.1 host ∈ NL) {v : Value} (hv0 : fs[k]? = some v) (hdg : decode cc pc = .ok (.getfield index, 3)) (kk : tj_W Γ cw σ lv (pc + 3) (v :: st)) : tj_W Γ cw σ lv pc (.ref a :: st) := by
  obtain ⟨p, l, e, R, s, m, args, below, meth, c, A, H0, cells, slots, Q, D, cls, nL⟩ := Γ
  obtain ⟨hx, hb, hml, hown, hts, hK, hN, hA, hfr, hlo, hce, hsl, rfl, rfl, rfl, rfl⟩ := C
  intro H locs ls hP hD hS hv
  exact va_getN hx hb hts F.1 hown hK hP q0 he hc k hk (va_Nw.use rfl (hN _ hlink)) (fun _ h9 => h9) hv0 hdg (kk H locs ls hP hD hS hv)
theorem xw_put (C : tj_C Γ l0 D0 cls0 nL0 cc own fr lo Ts tys NL) {Cn : String} {T : u_T} {N ci index a : Nat} {ty0 : Nat → FieldType} {fs : List Value} (F : tj_F Cn T N ty0 Ts) (q0 : Nat) (he : (cw σ)[q0]? = some (a, .inr (ci, fs))) (hc : cls0[ci]? = some (Cn, T, N)) (k : Nat) (hk : k < N) (hlink : Cond.fieldLink own index (T k).1 (T k).2.1 (T k).2.2.1 ∈ Ts) (hfin : (T k).2.2.2 = false) {v : Value} (hn : narrow (ty0 k) v = v) (hfit : fits (ty0 k) v = true) (hl : k < fs.length) (hdg : decode cc pc = .ok (.putfield index, 3)) {σ1 : S} (hσ : (cw σ).set q0 (a, .inr (ci, fs.set k v)) = cw σ1) (kk : tj_W Γ cw σ1 lv (pc + 3) (st)) : tj_W Γ cw σ lv pc (v :: .ref a :: st) := by
  obtain ⟨p, l, e, R, s, m, args, below, meth, c, A, H0, cells, slots, Q, D, cls, nL⟩ := Γ
  obtain ⟨hx, hb, hml, hown, hts, hK, hN, hA, hfr, hlo, hce, hsl, rfl, rfl, rfl, rfl⟩ := C
  intro H locs ls hP hD hS hv
  exact va_put hx hb hts F.1 ty0 F.2.1 F.2.2 hown hK hP hD hS q0 he hc k hk (hts _ hlink) (fun _ h9 => h9) hfin (F.2.1 k hk) hn hfit hl hdg (fun H1 locs1 hP1 hD1 hS1 => kk H1 locs1 ls (hσ ▸ hP1) (hσ ▸ hD1) hS1 hv)
theorem xw_putN (C : tj_C Γ l0 D0 cls0 nL0 cc own fr lo Ts tys NL) {Cn : String} {T : u_T} {N ci index a : Nat} {ty0 : Nat → FieldType} {fs : List Value} (F : tj_F Cn T N ty0 Ts) (q0 : Nat) (he : (cw σ)[q0]? = some (a, .inr (ci, fs))) (hc : cls0[ci]? = some (Cn, T, N)) (k : Nat) (hk : k < N) (host : String) (hlink : Cond.fieldLinkNest own index (T k).1 (T k).2.1 (T k).2.2.1 host ∈ NL) (hfin : (T k).2.2.2 = false) {v : Value} (hn : narrow (ty0 k) v = v) (hfit : fits (ty0 k) v = true) (hl : k < fs.length) (hdg : decode cc pc = .ok (.putfield index, 3)) {σ1 : S} (hσ : (cw σ).set q0 (a, .inr (ci, fs.set k v)) = cw σ1) (kk : tj_W Γ cw σ1 lv (pc + 3) (st)) : tj_W Γ cw σ lv pc (v :: .ref a :: st) := by
  obtain ⟨p, l, e, R, s, m, args, below, meth, c, A, H0, cells, slots, Q, D, cls, nL⟩ := Γ
  obtain ⟨hx, hb, hml, hown, hts, hK, hN, hA, hfr, hlo, hce, hsl, rfl, rfl, rfl, rfl⟩ := C
  intro H locs ls hP hD hS hv
  exact va_putN hx hb hts F.1 ty0 F.2.1 F.2.2 hown hK hP hD hS q0 he hc k hk (va_Nw.use rfl (hN _ hlink)) (fun _ h9 => h9) hfin (F.2.1 k hk) hn hfit hl hdg (fun H1 locs1 hP1 hD1 hS1 => kk H1 locs1 ls (hσ ▸ hP1) (hσ ▸ hD1) hS1 hv)
theorem xw_iald (C : tj_C Γ l0 D0 cls0 nL0 cc own fr lo Ts tys NL) (q0 t0 : Nat) {a n : Nat} {cA : ClassId} {f : Nat → Int32} (ha : (cw σ)[q0]? = some (a, .inl (cA, n, .inl f))) (ht : tys[t0]? = some (cA, .int)) {i : Int32} (hin : inb i n = true) (hdg : decode cc pc = .ok (.iaload, 1)) (kk : tj_W Γ cw σ lv (pc + 1) (.int (f i.toNatClampNeg) :: st)) : tj_W Γ cw σ lv pc (.int i :: .ref a :: st) := by
  obtain ⟨p, l, e, R, s, m, args, below, meth, c, A, H0, cells, slots, Q, D, cls, nL⟩ := Γ
  obtain ⟨hx, hb, hml, hown, hts, hK, hN, hA, hfr, hlo, hce, hsl, rfl, rfl, rfl, rfl⟩ := C
  intro H locs ls hP hD hS hv
  exact va_iald hx hb hK hP q0 t0 ha ht (inb_in hin) hdg (kk H locs ls hP hD hS hv)
theorem xw_iast (C : tj_C Γ l0 D0 cls0 nL0 cc own fr lo Ts tys NL) (q0 t0 : Nat) {a n : Nat} {cA : ClassId} {f : Nat → Int32} (ha : (cw σ)[q0]? = some (a, .inl (cA, n, .inl f))) (ht : tys[t0]? = some (cA, .int)) {i x : Int32} (hin : inb i n = true) (hdg : decode cc pc = .ok (.iastore, 1)) {σ1 : S} (hσ : (cw σ).set q0 (a, .inl (cA, n, .inl (upd f i.toNatClampNeg x))) = cw σ1) (kk : tj_W Γ cw σ1 lv (pc + 1) (st)) : tj_W Γ cw σ lv pc (.int x :: .int i :: .ref a :: st) := by
  obtain ⟨p, l, e, R, s, m, args, below, meth, c, A, H0, cells, slots, Q, D, cls, nL⟩ := Γ
  obtain ⟨hx, hb, hml, hown, hts, hK, hN, hA, hfr, hlo, hce, hsl, rfl, rfl, rfl, rfl⟩ := C
  intro H locs ls hP hD hS hv
  exact va_iast hx hb hK hP hD hS q0 t0 ha ht (inb_in hin) hdg (fun H1 locs1 hP1 hD1 hS1 => kk H1 locs1 ls (hσ ▸ hP1) (hσ ▸ hD1) hS1 hv)
theorem xw_zald (C : tj_C Γ l0 D0 cls0 nL0 cc own fr lo Ts tys NL) (q0 t0 : Nat) {a n : Nat} {cA : ClassId} {f : Nat → Int32} (ha : (cw σ)[q0]? = some (a, .inl (cA, n, .inl f))) (ht : tys[t0]? = some (cA, .boolean)) {i : Int32} (hin : inb i n = true) (hdg : decode cc pc = .ok (.baload, 1)) (kk : tj_W Γ cw σ lv (pc + 1) (.int (f i.toNatClampNeg) :: st)) : tj_W Γ cw σ lv pc (.int i :: .ref a :: st) := by
  obtain ⟨p, l, e, R, s, m, args, below, meth, c, A, H0, cells, slots, Q, D, cls, nL⟩ := Γ
  obtain ⟨hx, hb, hml, hown, hts, hK, hN, hA, hfr, hlo, hce, hsl, rfl, rfl, rfl, rfl⟩ := C
  intro H locs ls hP hD hS hv
  exact va_zald hx hb hK hP q0 t0 ha ht (inb_in hin) hdg (kk H locs ls hP hD hS hv)
theorem xw_zast (C : tj_C Γ l0 D0 cls0 nL0 cc own fr lo Ts tys NL) (q0 t0 : Nat) {a n : Nat} {cA : ClassId} {f : Nat → Int32} (ha : (cw σ)[q0]? = some (a, .inl (cA, n, .inl f))) (ht : tys[t0]? = some (cA, .boolean)) {i x : Int32} (hin : inb i n = true) (hdg : decode cc pc = .ok (.bastore, 1)) {σ1 : S} (hσ : (cw σ).set q0 (a, .inl (cA, n, .inl (upd f i.toNatClampNeg (vp_nar .boolean x)))) = cw σ1) (kk : tj_W Γ cw σ1 lv (pc + 1) (st)) : tj_W Γ cw σ lv pc (.int x :: .int i :: .ref a :: st) := by
  obtain ⟨p, l, e, R, s, m, args, below, meth, c, A, H0, cells, slots, Q, D, cls, nL⟩ := Γ
  obtain ⟨hx, hb, hml, hown, hts, hK, hN, hA, hfr, hlo, hce, hsl, rfl, rfl, rfl, rfl⟩ := C
  intro H locs ls hP hD hS hv
  exact va_zast hx hb hK hP hD hS q0 t0 ha ht (inb_in hin) hdg (fun H1 locs1 hP1 hD1 hS1 => kk H1 locs1 ls (hσ ▸ hP1) (hσ ▸ hD1) hS1 hv)
theorem xw_alen (C : tj_C Γ l0 D0 cls0 nL0 cc own fr lo Ts tys NL) (q0 t0 : Nat) {a : Nat} {cA : ClassId} {x : vp_A} (ha : (cw σ)[q0]? = some (a, .inl (cA, x))) {ty : FieldType} (ht : tys[t0]? = some (cA, ty)) {v : Int32} (hv0 : Int32.ofNat x.1 = v) (hdg : decode cc pc = .ok (.arraylength, 1)) (kk : tj_W Γ cw σ lv (pc + 1) (.int v :: st)) : tj_W Γ cw σ lv pc (.ref a :: st) := by
  obtain ⟨p, l, e, R, s, m, args, below, meth, c, A, H0, cells, slots, Q, D, cls, nL⟩ := Γ
  obtain ⟨hx, hb, hml, hown, hts, hK, hN, hA, hfr, hlo, hce, hsl, rfl, rfl, rfl, rfl⟩ := C
  intro H locs ls hP hD hS hv
  exact va_alen hx hb hK hP q0 t0 ha ht hv0 hdg (kk H locs ls hP hD hS hv)
def cpb (sp dp n : Int32) (n0 n1 : Nat) : Bool := decide (¬ sp < 0) && (decide (¬ dp < 0) && (decide (¬ n < 0) && (decide (sp.toNatClampNeg + n.toNatClampNeg ≤ n0) && decide (dp.toNatClampNeg + n.toNatClampNeg ≤ n1))))
theorem cpb_e {sp dp n : Int32} {n0 n1 : Nat} (h : cpb sp dp n n0 n1 = true) : ¬ sp < 0 ∧ ¬ dp < 0 ∧ ¬ n < 0 ∧ sp.toNatClampNeg + n.toNatClampNeg ≤ n0 ∧ dp.toNatClampNeg + n.toNatClampNeg ≤ n1 := by
  unfold cpb at h
  rw [Bool.and_eq_true, Bool.and_eq_true, Bool.and_eq_true, Bool.and_eq_true] at h
  exact ⟨of_decide_eq_true h.1, of_decide_eq_true h.2.1, of_decide_eq_true h.2.2.1, of_decide_eq_true h.2.2.2.1, of_decide_eq_true h.2.2.2.2⟩
theorem xw_copy (C : tj_C Γ l0 D0 cls0 nL0 cc own fr lo Ts tys NL) {index : Nat} (hlink : Cond.methodLink own index arraycopyName ∈ Ts) (hnat : Cond.native arraycopyName ∈ Ts) (hstat : Cond.static arraycopyName ∈ Ts) (hini : Cond.initialized "java/lang/System" ∈ Ts) (q0 q1 t0 t1 : Nat) {a0 a n0 n1 : Nat} {c0 c1 : ClassId} {f g : Nat → Int32} (ha0 : (cw σ)[q0]? = some (a0, .inl (c0, n0, .inl f))) (ha1 : (cw σ)[q1]? = some (a, .inl (c1, n1, .inl g))) (ht0 : tys[t0]? = some (c0, .int)) (ht1 : tys[t1]? = some (c1, .int)) {sp dp n : Int32} (hb0 : cpb sp dp n n0 n1 = true) (hf0 : 1 ≤ fr) (hl0 : (st.map fun v => v.category).sum + (nativeFrameWords "java/lang/System" "arraycopy" 5 + 11) ≤ lo) (hdg : decode cc pc = .ok (.invokestatic index, 3)) {σ1 : S} (hσ : (cw σ).set q1 (a, .inl (c1, n1, .inl (va_cpy f g sp.toNatClampNeg dp.toNatClampNeg n.toNatClampNeg))) = cw σ1) (kk : tj_W Γ cw σ1 lv (pc + 3) (st)) : tj_W Γ cw σ lv pc (.int n :: .int dp :: .ref a :: .int sp :: .ref a0 :: st) := by
  obtain ⟨p, l, e, R, s, m, args, below, meth, c, A, H0, cells, slots, Q, D, cls, nL⟩ := Γ
  obtain ⟨hx, hb, hml, hown, hts, hK, hN, hA, hfr, hlo, hce, hsl, rfl, rfl, rfl, rfl⟩ := C
  intro H locs ls hP hD hS hv
  obtain ⟨h1, h2, h3, h4, h5⟩ := cpb_e hb0
  exact va_copyi hx hb (hml.trans hv.1.symm) hown (hts _ hlink) (hts _ hnat) (hts _ hstat) (hts _ hini) hK hP hD hS q0 q1 t0 t1 ha0 ha1 ht0 ht1 rfl h1 h2 h3 h4 h5 (fun _ _ => rfl) (Nat.le_trans hf0 hfr) (Nat.le_trans hl0 hlo) hdg (fun H1 locs1 hP1 hD1 hS1 => kk H1 locs1 ls (hσ ▸ hP1) (hσ ▸ hD1) hS1 hv)
theorem xw_min (C : tj_C Γ l0 D0 cls0 nL0 cc own fr lo Ts tys NL) {index : Nat} (hlink : Cond.methodLink own index Lib.Math.min.name ∈ Ts) (hstat : Cond.static Lib.Math.min.name ∈ Ts) (hini : Cond.initialized "java/lang/Math" ∈ Ts) (hcode : Cond.code Lib.Math.min.name Lib.Math.min.code 2 (some .int) ∈ Ts) {x y : Int32} (hf0 : 1 ≤ fr) (hl0 : (st.map fun v => v.category).sum + 13 ≤ lo) (hdg : decode cc pc = .ok (.invokestatic index, 3)) (kk : tj_W Γ cw σ lv (pc + 3) (.int (if y < x then y else x) :: st)) : tj_W Γ cw σ lv pc (.int y :: .int x :: st) := by
  obtain ⟨p, l, e, R, s, m, args, below, meth, c, A, H0, cells, slots, Q, D, cls, nL⟩ := Γ
  obtain ⟨hx, hb, hml, hown, hts, hK, hN, hA, hfr, hlo, hce, hsl, rfl, rfl, rfl, rfl⟩ := C
  intro H locs ls hP hD hS hv
  exact va_mmin hx hb (hml.trans hv.1.symm) hown (hts _ hlink) (hts _ hstat) (hts _ hini) (hts _ hcode) (Nat.le_trans hf0 hfr) (Nat.le_trans hl0 hlo) hce hsl hdg (kk H locs ls hP hD hS hv)
end tjRows
def tj_Pre {S : Type} (D : va_G) (cls : List vw_C) (tys : List (ClassId × FieldType)) (NL : List Cond) (cw : S → va_W) (σ : S) (sz : Nat) (U : State) : Prop := U.heap.size = sz ∧ va_P D cls (cw σ) U.heap ∧ va_K D cls tys U ∧ va_D (fun _ => True) (cw σ) ∧ ∀ w ∈ NL, va_Nw w U
def tj_Post {S : Type} (D : va_G) (cls : List vw_C) (cw : S → va_W) (A : Nat → Prop) (u : S) (t : State) : Prop := va_P D cls (cw u) t.heap ∧ va_D A (cw u)
def tj_Mi {S : Type} (l : Launch) (D : va_G) (cls : List vw_C) (tys : List (ClassId × FieldType)) (NL Ts : List Cond) (cw : S → va_W) (y : MethodName) (cc : ByteArray) (maxL : Nat) (rt : FieldType) (fr lo : Nat) (as : List Value) (σ : S) (r0 : Int32) (σ0 : S) : Prop :=
  ∀ sz : Nat, Met l y (Cond.code y cc maxL (some rt) :: Ts) { frames := fr, cells := 0, slots := 0, locals := lo } (va_Pc as (tj_Pre D cls tys NL cw σ sz)) (va_Qi (fun (r : Int32) (u : S) => r = r0 ∧ u = σ0) (tj_Post D cls cw (va_A (cw σ) sz)) (va_A (cw σ) sz)) 0 0 (va_A (cw σ) sz)
def tj_Mv {S : Type} (l : Launch) (D : va_G) (cls : List vw_C) (tys : List (ClassId × FieldType)) (NL Ts : List Cond) (cw : S → va_W) (y : MethodName) (cc : ByteArray) (maxL : Nat) (fr lo : Nat) (as : List Value) (σ : S) (σ0 : S) : Prop :=
  ∀ sz : Nat, Met l y (Cond.code y cc maxL none :: Ts) { frames := fr, cells := 0, slots := 0, locals := lo } (va_Pc as (tj_Pre D cls tys NL cw σ sz)) (va_Qv (fun (u : S) => u = σ0) (tj_Post D cls cw (va_A (cw σ) sz)) (va_A (cw σ) sz)) 0 0 (va_A (cw σ) sz)
def tj_gT (Ts : List Cond) : Prop := ∀ w ∈ Ts, (w.onTables && w.keeps) = true ∨ ∃ ty, w = .arrayClass ty
def tj_gN (NL : List Cond) : Prop := ∀ w ∈ NL, (∃ a i b n d h, w = Cond.fieldLinkNest a i b n d h) ∨ ∃ a i x h, w = Cond.methodLinkNest a i x h
theorem tj_good {Ts : List Cond} (hT : tj_gT Ts) {c : Cond} (h : c ∈ Ts) : GoodIn Ts (c :: Ts) := by
  intro w hw
  rcases List.mem_cons.mp hw with rfl | hw
  · exact ⟨h, hT _ h⟩
  · exact ⟨hw, hT _ hw⟩
theorem tj_nwarm {NL : List Cond} (hG : tj_gN NL) {s U : State} (hW : s.WarmedH U.vm) (h : ∀ w ∈ NL, va_Nw w s) : ∀ w ∈ NL, va_Nw w U := by
  intro w hw
  have h1 := h w hw
  rcases hG w hw with ⟨a, i, b, n, d, g, rfl⟩ | ⟨a, i, x, g, rfl⟩
  · exact va_Nw.warmF hW h1
  · exact va_Nw.warmM hW h1
theorem tj_blind {S : Type} {D : va_G} {cls : List vw_C} {tys : List (ClassId × FieldType)} {NL : List Cond} (hG : tj_gN NL) {cw : S → va_W} {as : List Value} {σ : S} {sz : Nat} : FrameBlind (va_Pc as (tj_Pre D cls tys NL cw σ sz)) := by
  intro a U g mk q
  obtain ⟨q0, q1, qP, qK, qD, qN⟩ := q
  refine ⟨q0, q1, qP, va_K.moved (u := U) (U := U.calling g mk a) (Vm.Alike.refl U.vm) qK, qD, fun w hw => ?_⟩
  have h1 := qN w hw
  rcases hG w hw with ⟨a, i, b, n, d, g, rfl⟩ | ⟨a, i, x, g, rfl⟩
  · exact va_tabs (u := U) rfl rfl h1
  · exact va_tabs (u := U) rfl rfl h1
theorem tj_start_i {S : Type} {l : Launch} {D : va_G} {cls : List vw_C} {tys : List (ClassId × FieldType)} {NL Ts : List Cond} {cw : S → va_W} {y : MethodName} {cc : ByteArray} {maxL : Nat} {rt : FieldType} {fr lo : Nat} {as : List Value} {σ : S} {r0 : Int32} {σ0 : S} (hy : plainName y.cls = true) (hln : (lg_sl as).length ≤ maxL)
    (body : ∀ Γ : tj_G, tj_C Γ l D cls maxL cc y.cls fr lo Ts tys NL → (∀ (lv : List (Nat × Value)) (pc : Nat) (v : Int32) (s1 : S), some (v, s1) = some (r0, σ0) → decode cc pc = .ok (.ireturn, 1) → narrow rt (.int v) = .int v → tj_W Γ cw s1 lv pc [.int v]) → tj_W Γ cw σ (lv_args 0 as) 0 []) : tj_Mi l D cls tys NL Ts cw y cc maxL rt fr lo as σ r0 σ0 := by
  intro sz
  refine Met.ofW (cc := cc) (maxL := maxL) (ret := some rt) hy rfl ?_
  intro p e s m args below meth c s₁ B hml hv
  obtain ⟨rfl, hsz, hP, hK, hD0, hN⟩ := hv
  have hts := atoms_spec (ws := Cond.code y cc maxL (some rt) :: Ts) B.pre
  have hown : s.vm.findClass y.cls = some m.cls := findClass_of_methodNamed B.named
  have hlocks := B.notSynchronized
  subst hsz
  have hD := hD0.self (sz := s.heap.size)
  rw [lg_entry_eq]
  refine body (p, l, e, _, s, m, as.toArray, below, meth, c, va_A (cw σ) s.heap.size, s.heap, 0, 0, _, D, cls, maxL) ⟨B.exec, B.bytes, hml, hown, fun w hw => hts w (List.mem_cons_of_mem _ hw), hK, hN, fun q h => Or.inr h, Nat.le_refl _, Nat.le_refl _, Nat.zero_le _, Nat.zero_le _, rfl, rfl, rfl, rfl⟩ ?_ s.heap [] _ hP hD va_S.rf (lv_entry as hln)
  intro lv pc v s1 hvs hdg hn H locs ls hP hD hS hv
  cases hvs
  exact W.zret B.exec B.bytes B.returns hn (fun t ht hW => ⟨⟨r0, σ0, rfl, ⟨rfl, rfl⟩, by rw [ht]; exact hP, hD⟩, hS.F ht⟩) hS.2.2 hdg
theorem tj_start_v {S : Type} {l : Launch} {D : va_G} {cls : List vw_C} {tys : List (ClassId × FieldType)} {NL Ts : List Cond} {cw : S → va_W} {y : MethodName} {cc : ByteArray} {maxL : Nat} {fr lo : Nat} {as : List Value} {σ : S} {σ0 : S} (hy : plainName y.cls = true) (hln : (lg_sl as).length ≤ maxL)
    (body : ∀ Γ : tj_G, tj_C Γ l D cls maxL cc y.cls fr lo Ts tys NL → (∀ (lv : List (Nat × Value)) (pc : Nat) (s1 : S), some s1 = some σ0 → decode cc pc = .ok (.return_, 1) → tj_W Γ cw s1 lv pc []) → tj_W Γ cw σ (lv_args 0 as) 0 []) : tj_Mv l D cls tys NL Ts cw y cc maxL fr lo as σ σ0 := by
  intro sz
  refine Met.ofW (cc := cc) (maxL := maxL) (ret := none) hy rfl ?_
  intro p e s m args below meth c s₁ B hml hv
  obtain ⟨rfl, hsz, hP, hK, hD0, hN⟩ := hv
  have hts := atoms_spec (ws := Cond.code y cc maxL none :: Ts) B.pre
  have hown : s.vm.findClass y.cls = some m.cls := findClass_of_methodNamed B.named
  have hlocks := B.notSynchronized
  subst hsz
  have hD := hD0.self (sz := s.heap.size)
  rw [lg_entry_eq]
  refine body (p, l, e, _, s, m, as.toArray, below, meth, c, va_A (cw σ) s.heap.size, s.heap, 0, 0, _, D, cls, maxL) ⟨B.exec, B.bytes, hml, hown, fun w hw => hts w (List.mem_cons_of_mem _ hw), hK, hN, fun q h => Or.inr h, Nat.le_refl _, Nat.le_refl _, Nat.zero_le _, Nat.zero_le _, rfl, rfl, rfl, rfl⟩ ?_ s.heap [] _ hP hD va_S.rf (lv_entry as hln)
  intro lv pc s1 hvs hdg H locs ls hP hD hS hv
  cases hvs
  exact W.vret B.exec B.bytes B.returns (fun t ht hW => ⟨⟨σ0, rfl, rfl, by rw [ht]; exact hP, hD⟩, hS.F ht⟩) hS.2.2 hdg
section tjCalls
variable {Γ : tj_G} {l0 : Launch} {D0 : va_G} {cls0 : List vw_C} {nL0 : Nat} {cc : ByteArray} {own : String} {fr lo : Nat} {Ts : List Cond} {tys : List (ClassId × FieldType)} {NL : List Cond}
variable {S : Type} {cw : S → va_W} {σ : S} {lv : List (Nat × Value)} {pc : Nat} {st : List Value}
theorem xw_callV_i (C : tj_C Γ l0 D0 cls0 nL0 cc own fr lo Ts tys NL) (hT : tj_gT Ts) (hG : tj_gN NL) {y : MethodName} {bytes : ByteArray} {maxL n index f1 l1 : Nat} {rt : FieldType} {b ci : Nat} {fs : List Value} {qc : vw_C} {As rest : List Value} {r : Int32} {σ1 : S} (hM : tj_Mi l0 D0 cls0 tys NL Ts cw y bytes maxL rt f1 l1 (.ref b :: As) σ r σ1) (hcode : Cond.code y bytes maxL (some rt) ∈ Ts) (hlink : Cond.methodLink own index y ∈ Ts) (hini : Cond.initialized y.cls ∈ Ts) (hinst : Cond.instanceMethod y ∈ Ts) (hsel : Cond.selects y.cls y y ∈ Ts) (q0 : Nat) (he : (cw σ)[q0]? = some (b, .inr (ci, fs))) (hc : cls0[ci]? = some qc) (hq : qc.1 = y.cls) (hd : y.cls ≠ "java/lang/invoke/MethodHandle" ∧ y.cls ≠ "java/lang/invoke/VarHandle" ∧ (parseMethodDescriptor y.desc).map (fun d => d.parameters.length) = some n) (hR : f1 + 1 ≤ fr ∧ 8 + (maxL + 11) + l1 ≤ lo) (hn : As.length = n) (hst : st = As.reverse ++ .ref b :: rest) (hr0 : (rest.map fun v => v.category).sum ≤ 8) (hdg : decode cc pc = .ok (.invokevirtual index, 3)) (kk : tj_W Γ cw σ1 lv (pc + 3) (.int r :: rest)) : tj_W Γ cw σ lv pc st := by
  obtain ⟨p, l, e, R, s, m, args, below, meth, c, A, H0, cells, slots, Q, D, cls, nL⟩ := Γ
  obtain ⟨hx, hb, hml, hown, hts, hK, hN, hA, hfr, hlo, hce, hsl, rfl, rfl, rfl, rfl⟩ := C
  intro H locs ls hP hD hS hv
  have hFc : ∀ q, va_A (cw σ) H.size q → A q := by
    rintro q (⟨k, e1, h⟩ | h)
    · exact hD.2 k (q, e1) h
    · exact hA q (Nat.le_trans hS.1 h)
  have hrec := va_recv hK hP hc he
  rw [hq] at hrec
  subst hst
  refine va_calli (va_runV (C := y.cls) (As := As) (rest := rest) ⟨hx, hb, hml, hown, hts⟩ (hM H.size) ⟨callB_of n hts (tj_good hT hcode) rfl rfl rfl (hts _ hini) (hts _ hlink) hd ⟨Nat.le_trans hR.1 hfr, Nat.le_trans hR.2 hlo⟩, hts _ hinst, hts _ hsel⟩ ⟨tj_blind hG, hrec, fun U hU hW => ⟨rfl, by rw [hU], by rw [hU]; exact hP, va_K.moved hW.alike hK, hD.weaken (fun _ _ _ _ => trivial), tj_nwarm hG hW hN⟩⟩ rfl hn hv.1 rfl (lv_room hr0) hdg ⟨hce, hsl⟩) hS (fun q _ h => hFc q h) hFc (fun r2 u t H1 locs1 ht hvm hpost hB hz hk hS1 => ?_)
  obtain ⟨rfl, rfl⟩ := hpost
  exact kk H1 locs1 ls (ht ▸ hB.1) (hB.2.weaken (fun _ q _ h => hFc q.1 h)) hS1 hv
theorem xw_callS_i (C : tj_C Γ l0 D0 cls0 nL0 cc own fr lo Ts tys NL) (hT : tj_gT Ts) (hG : tj_gN NL) {y : MethodName} {bytes : ByteArray} {maxL n index f1 l1 : Nat} {rt : FieldType} {As rest : List Value} {r : Int32} {σ1 : S} (hM : tj_Mi l0 D0 cls0 tys NL Ts cw y bytes maxL rt f1 l1 (As) σ r σ1) (hcode : Cond.code y bytes maxL (some rt) ∈ Ts) (hlink : Cond.methodLink own index y ∈ Ts) (hini : Cond.initialized y.cls ∈ Ts) (hstat : Cond.static y ∈ Ts) (hd : y.cls ≠ "java/lang/invoke/MethodHandle" ∧ y.cls ≠ "java/lang/invoke/VarHandle" ∧ (parseMethodDescriptor y.desc).map (fun d => d.parameters.length) = some n) (hR : f1 + 1 ≤ fr ∧ 8 + (maxL + 11) + l1 ≤ lo) (hn : As.length = n) (hst : st = As.reverse ++ rest) (hr0 : (rest.map fun v => v.category).sum ≤ 8) (hdg : decode cc pc = .ok (.invokestatic index, 3)) (kk : tj_W Γ cw σ1 lv (pc + 3) (.int r :: rest)) : tj_W Γ cw σ lv pc st := by
  obtain ⟨p, l, e, R, s, m, args, below, meth, c, A, H0, cells, slots, Q, D, cls, nL⟩ := Γ
  obtain ⟨hx, hb, hml, hown, hts, hK, hN, hA, hfr, hlo, hce, hsl, rfl, rfl, rfl, rfl⟩ := C
  intro H locs ls hP hD hS hv
  have hFc : ∀ q, va_A (cw σ) H.size q → A q := by
    rintro q (⟨k, e1, h⟩ | h)
    · exact hD.2 k (q, e1) h
    · exact hA q (Nat.le_trans hS.1 h)
  subst hst
  refine va_calli (va_runS (As := As) (rest := rest) ⟨hx, hb, hml, hown, hts⟩ (hM H.size) ⟨callB_of n hts (tj_good hT hcode) rfl rfl rfl (hts _ hini) (hts _ hlink) hd ⟨Nat.le_trans hR.1 hfr, Nat.le_trans hR.2 hlo⟩, hts _ hstat⟩ ⟨tj_blind hG, fun U hU hW => ⟨rfl, by rw [hU], by rw [hU]; exact hP, va_K.moved hW.alike hK, hD.weaken (fun _ _ _ _ => trivial), tj_nwarm hG hW hN⟩⟩ rfl hn hv.1 rfl (lv_room hr0) hdg ⟨hce, hsl⟩) hS (fun q _ h => hFc q h) hFc (fun r2 u t H1 locs1 ht hvm hpost hB hz hk hS1 => ?_)
  obtain ⟨rfl, rfl⟩ := hpost
  exact kk H1 locs1 ls (ht ▸ hB.1) (hB.2.weaken (fun _ q _ h => hFc q.1 h)) hS1 hv
theorem xw_callVN_i (C : tj_C Γ l0 D0 cls0 nL0 cc own fr lo Ts tys NL) (hT : tj_gT Ts) (hG : tj_gN NL) {y : MethodName} {bytes : ByteArray} {maxL n index f1 l1 : Nat} {rt : FieldType} {b ci : Nat} {fs : List Value} {qc : vw_C} {As rest : List Value} {r : Int32} {σ1 : S} (hM : tj_Mi l0 D0 cls0 tys NL Ts cw y bytes maxL rt f1 l1 (.ref b :: As) σ r σ1) (hcode : Cond.code y bytes maxL (some rt) ∈ Ts) (host : String) (hlink : Cond.methodLinkNest own index y host ∈ NL) (hini : Cond.initialized y.cls ∈ Ts) (hinst : Cond.instanceMethod y ∈ Ts) (hsel : Cond.selects y.cls y y ∈ Ts) (q0 : Nat) (he : (cw σ)[q0]? = some (b, .inr (ci, fs))) (hc : cls0[ci]? = some qc) (hq : qc.1 = y.cls) (hd : y.cls ≠ "java/lang/invoke/MethodHandle" ∧ y.cls ≠ "java/lang/invoke/VarHandle" ∧ (parseMethodDescriptor y.desc).map (fun d => d.parameters.length) = some n) (hR : f1 + 1 ≤ fr ∧ 8 + (maxL + 11) + l1 ≤ lo) (hn : As.length = n) (hst : st = As.reverse ++ .ref b :: rest) (hr0 : (rest.map fun v => v.category).sum ≤ 8) (hdg : decode cc pc = .ok (.invokevirtual index, 3)) (kk : tj_W Γ cw σ1 lv (pc + 3) (.int r :: rest)) : tj_W Γ cw σ lv pc st := by
  obtain ⟨p, l, e, R, s, m, args, below, meth, c, A, H0, cells, slots, Q, D, cls, nL⟩ := Γ
  obtain ⟨hx, hb, hml, hown, hts, hK, hN, hA, hfr, hlo, hce, hsl, rfl, rfl, rfl, rfl⟩ := C
  intro H locs ls hP hD hS hv
  have hFc : ∀ q, va_A (cw σ) H.size q → A q := by
    rintro q (⟨k, e1, h⟩ | h)
    · exact hD.2 k (q, e1) h
    · exact hA q (Nat.le_trans hS.1 h)
  have hrec := va_recv hK hP hc he
  rw [hq] at hrec
  subst hst
  refine va_calli (va_runVN (C := y.cls) (As := As) (rest := rest) ⟨hx, hb, hml, hown, hts⟩ (hM H.size) ⟨va_cnB n hts (tj_good hT hcode) rfl rfl rfl (hN _ hlink) (hts _ hini) hd ⟨Nat.le_trans hR.1 hfr, Nat.le_trans hR.2 hlo⟩, hts _ hinst, hts _ hsel⟩ ⟨tj_blind hG, hrec, fun U hU hW => ⟨rfl, by rw [hU], by rw [hU]; exact hP, va_K.moved hW.alike hK, hD.weaken (fun _ _ _ _ => trivial), tj_nwarm hG hW hN⟩⟩ rfl hn hv.1 rfl (lv_room hr0) hdg ⟨hce, hsl⟩) hS (fun q _ h => hFc q h) hFc (fun r2 u t H1 locs1 ht hvm hpost hB hz hk hS1 => ?_)
  obtain ⟨rfl, rfl⟩ := hpost
  exact kk H1 locs1 ls (ht ▸ hB.1) (hB.2.weaken (fun _ q _ h => hFc q.1 h)) hS1 hv
theorem xw_callSN_i (C : tj_C Γ l0 D0 cls0 nL0 cc own fr lo Ts tys NL) (hT : tj_gT Ts) (hG : tj_gN NL) {y : MethodName} {bytes : ByteArray} {maxL n index f1 l1 : Nat} {rt : FieldType} {As rest : List Value} {r : Int32} {σ1 : S} (hM : tj_Mi l0 D0 cls0 tys NL Ts cw y bytes maxL rt f1 l1 (As) σ r σ1) (hcode : Cond.code y bytes maxL (some rt) ∈ Ts) (host : String) (hlink : Cond.methodLinkNest own index y host ∈ NL) (hini : Cond.initialized y.cls ∈ Ts) (hstat : Cond.static y ∈ Ts) (hd : y.cls ≠ "java/lang/invoke/MethodHandle" ∧ y.cls ≠ "java/lang/invoke/VarHandle" ∧ (parseMethodDescriptor y.desc).map (fun d => d.parameters.length) = some n) (hR : f1 + 1 ≤ fr ∧ 8 + (maxL + 11) + l1 ≤ lo) (hn : As.length = n) (hst : st = As.reverse ++ rest) (hr0 : (rest.map fun v => v.category).sum ≤ 8) (hdg : decode cc pc = .ok (.invokestatic index, 3)) (kk : tj_W Γ cw σ1 lv (pc + 3) (.int r :: rest)) : tj_W Γ cw σ lv pc st := by
  obtain ⟨p, l, e, R, s, m, args, below, meth, c, A, H0, cells, slots, Q, D, cls, nL⟩ := Γ
  obtain ⟨hx, hb, hml, hown, hts, hK, hN, hA, hfr, hlo, hce, hsl, rfl, rfl, rfl, rfl⟩ := C
  intro H locs ls hP hD hS hv
  have hFc : ∀ q, va_A (cw σ) H.size q → A q := by
    rintro q (⟨k, e1, h⟩ | h)
    · exact hD.2 k (q, e1) h
    · exact hA q (Nat.le_trans hS.1 h)
  subst hst
  refine va_calli (va_runSN (As := As) (rest := rest) ⟨hx, hb, hml, hown, hts⟩ (hM H.size) ⟨va_cnB n hts (tj_good hT hcode) rfl rfl rfl (hN _ hlink) (hts _ hini) hd ⟨Nat.le_trans hR.1 hfr, Nat.le_trans hR.2 hlo⟩, hts _ hstat, trivial⟩ ⟨tj_blind hG, fun U hU hW => ⟨rfl, by rw [hU], by rw [hU]; exact hP, va_K.moved hW.alike hK, hD.weaken (fun _ _ _ _ => trivial), tj_nwarm hG hW hN⟩⟩ rfl hn hv.1 rfl (lv_room hr0) hdg ⟨hce, hsl⟩) hS (fun q _ h => hFc q h) hFc (fun r2 u t H1 locs1 ht hvm hpost hB hz hk hS1 => ?_)
  obtain ⟨rfl, rfl⟩ := hpost
  exact kk H1 locs1 ls (ht ▸ hB.1) (hB.2.weaken (fun _ q _ h => hFc q.1 h)) hS1 hv
theorem xw_callV_v (C : tj_C Γ l0 D0 cls0 nL0 cc own fr lo Ts tys NL) (hT : tj_gT Ts) (hG : tj_gN NL) {y : MethodName} {bytes : ByteArray} {maxL n index f1 l1 : Nat} {b ci : Nat} {fs : List Value} {qc : vw_C} {As rest : List Value} {σ1 : S} (hM : tj_Mv l0 D0 cls0 tys NL Ts cw y bytes maxL f1 l1 (.ref b :: As) σ σ1) (hcode : Cond.code y bytes maxL none ∈ Ts) (hlink : Cond.methodLink own index y ∈ Ts) (hini : Cond.initialized y.cls ∈ Ts) (hinst : Cond.instanceMethod y ∈ Ts) (hsel : Cond.selects y.cls y y ∈ Ts) (q0 : Nat) (he : (cw σ)[q0]? = some (b, .inr (ci, fs))) (hc : cls0[ci]? = some qc) (hq : qc.1 = y.cls) (hd : y.cls ≠ "java/lang/invoke/MethodHandle" ∧ y.cls ≠ "java/lang/invoke/VarHandle" ∧ (parseMethodDescriptor y.desc).map (fun d => d.parameters.length) = some n) (hR : f1 + 1 ≤ fr ∧ 8 + (maxL + 11) + l1 ≤ lo) (hn : As.length = n) (hst : st = As.reverse ++ .ref b :: rest) (hr0 : (rest.map fun v => v.category).sum ≤ 8) (hdg : decode cc pc = .ok (.invokevirtual index, 3)) (kk : tj_W Γ cw σ1 lv (pc + 3) (rest)) : tj_W Γ cw σ lv pc st := by
  obtain ⟨p, l, e, R, s, m, args, below, meth, c, A, H0, cells, slots, Q, D, cls, nL⟩ := Γ
  obtain ⟨hx, hb, hml, hown, hts, hK, hN, hA, hfr, hlo, hce, hsl, rfl, rfl, rfl, rfl⟩ := C
  intro H locs ls hP hD hS hv
  have hFc : ∀ q, va_A (cw σ) H.size q → A q := by
    rintro q (⟨k, e1, h⟩ | h)
    · exact hD.2 k (q, e1) h
    · exact hA q (Nat.le_trans hS.1 h)
  have hrec := va_recv hK hP hc he
  rw [hq] at hrec
  subst hst
  refine va_callv (va_runV (C := y.cls) (As := As) (rest := rest) ⟨hx, hb, hml, hown, hts⟩ (hM H.size) ⟨callB_of n hts (tj_good hT hcode) rfl rfl rfl (hts _ hini) (hts _ hlink) hd ⟨Nat.le_trans hR.1 hfr, Nat.le_trans hR.2 hlo⟩, hts _ hinst, hts _ hsel⟩ ⟨tj_blind hG, hrec, fun U hU hW => ⟨rfl, by rw [hU], by rw [hU]; exact hP, va_K.moved hW.alike hK, hD.weaken (fun _ _ _ _ => trivial), tj_nwarm hG hW hN⟩⟩ rfl hn hv.1 rfl (lv_room hr0) hdg ⟨hce, hsl⟩) hS (fun q _ h => hFc q h) hFc (fun u t H1 locs1 ht hvm hpost hB hz hk hS1 => ?_)
  subst hpost
  exact kk H1 locs1 ls (ht ▸ hB.1) (hB.2.weaken (fun _ q _ h => hFc q.1 h)) hS1 hv
theorem xw_callS_v (C : tj_C Γ l0 D0 cls0 nL0 cc own fr lo Ts tys NL) (hT : tj_gT Ts) (hG : tj_gN NL) {y : MethodName} {bytes : ByteArray} {maxL n index f1 l1 : Nat} {As rest : List Value} {σ1 : S} (hM : tj_Mv l0 D0 cls0 tys NL Ts cw y bytes maxL f1 l1 (As) σ σ1) (hcode : Cond.code y bytes maxL none ∈ Ts) (hlink : Cond.methodLink own index y ∈ Ts) (hini : Cond.initialized y.cls ∈ Ts) (hstat : Cond.static y ∈ Ts) (hd : y.cls ≠ "java/lang/invoke/MethodHandle" ∧ y.cls ≠ "java/lang/invoke/VarHandle" ∧ (parseMethodDescriptor y.desc).map (fun d => d.parameters.length) = some n) (hR : f1 + 1 ≤ fr ∧ 8 + (maxL + 11) + l1 ≤ lo) (hn : As.length = n) (hst : st = As.reverse ++ rest) (hr0 : (rest.map fun v => v.category).sum ≤ 8) (hdg : decode cc pc = .ok (.invokestatic index, 3)) (kk : tj_W Γ cw σ1 lv (pc + 3) (rest)) : tj_W Γ cw σ lv pc st := by
  obtain ⟨p, l, e, R, s, m, args, below, meth, c, A, H0, cells, slots, Q, D, cls, nL⟩ := Γ
  obtain ⟨hx, hb, hml, hown, hts, hK, hN, hA, hfr, hlo, hce, hsl, rfl, rfl, rfl, rfl⟩ := C
  intro H locs ls hP hD hS hv
  have hFc : ∀ q, va_A (cw σ) H.size q → A q := by
    rintro q (⟨k, e1, h⟩ | h)
    · exact hD.2 k (q, e1) h
    · exact hA q (Nat.le_trans hS.1 h)
  subst hst
  refine va_callv (va_runS (As := As) (rest := rest) ⟨hx, hb, hml, hown, hts⟩ (hM H.size) ⟨callB_of n hts (tj_good hT hcode) rfl rfl rfl (hts _ hini) (hts _ hlink) hd ⟨Nat.le_trans hR.1 hfr, Nat.le_trans hR.2 hlo⟩, hts _ hstat⟩ ⟨tj_blind hG, fun U hU hW => ⟨rfl, by rw [hU], by rw [hU]; exact hP, va_K.moved hW.alike hK, hD.weaken (fun _ _ _ _ => trivial), tj_nwarm hG hW hN⟩⟩ rfl hn hv.1 rfl (lv_room hr0) hdg ⟨hce, hsl⟩) hS (fun q _ h => hFc q h) hFc (fun u t H1 locs1 ht hvm hpost hB hz hk hS1 => ?_)
  subst hpost
  exact kk H1 locs1 ls (ht ▸ hB.1) (hB.2.weaken (fun _ q _ h => hFc q.1 h)) hS1 hv
theorem xw_callVN_v (C : tj_C Γ l0 D0 cls0 nL0 cc own fr lo Ts tys NL) (hT : tj_gT Ts) (hG : tj_gN NL) {y : MethodName} {bytes : ByteArray} {maxL n index f1 l1 : Nat} {b ci : Nat} {fs : List Value} {qc : vw_C} {As rest : List Value} {σ1 : S} (hM : tj_Mv l0 D0 cls0 tys NL Ts cw y bytes maxL f1 l1 (.ref b :: As) σ σ1) (hcode : Cond.code y bytes maxL none ∈ Ts) (host : String) (hlink : Cond.methodLinkNest own index y host ∈ NL) (hini : Cond.initialized y.cls ∈ Ts) (hinst : Cond.instanceMethod y ∈ Ts) (hsel : Cond.selects y.cls y y ∈ Ts) (q0 : Nat) (he : (cw σ)[q0]? = some (b, .inr (ci, fs))) (hc : cls0[ci]? = some qc) (hq : qc.1 = y.cls) (hd : y.cls ≠ "java/lang/invoke/MethodHandle" ∧ y.cls ≠ "java/lang/invoke/VarHandle" ∧ (parseMethodDescriptor y.desc).map (fun d => d.parameters.length) = some n) (hR : f1 + 1 ≤ fr ∧ 8 + (maxL + 11) + l1 ≤ lo) (hn : As.length = n) (hst : st = As.reverse ++ .ref b :: rest) (hr0 : (rest.map fun v => v.category).sum ≤ 8) (hdg : decode cc pc = .ok (.invokevirtual index, 3)) (kk : tj_W Γ cw σ1 lv (pc + 3) (rest)) : tj_W Γ cw σ lv pc st := by
  obtain ⟨p, l, e, R, s, m, args, below, meth, c, A, H0, cells, slots, Q, D, cls, nL⟩ := Γ
  obtain ⟨hx, hb, hml, hown, hts, hK, hN, hA, hfr, hlo, hce, hsl, rfl, rfl, rfl, rfl⟩ := C
  intro H locs ls hP hD hS hv
  have hFc : ∀ q, va_A (cw σ) H.size q → A q := by
    rintro q (⟨k, e1, h⟩ | h)
    · exact hD.2 k (q, e1) h
    · exact hA q (Nat.le_trans hS.1 h)
  have hrec := va_recv hK hP hc he
  rw [hq] at hrec
  subst hst
  refine va_callv (va_runVN (C := y.cls) (As := As) (rest := rest) ⟨hx, hb, hml, hown, hts⟩ (hM H.size) ⟨va_cnB n hts (tj_good hT hcode) rfl rfl rfl (hN _ hlink) (hts _ hini) hd ⟨Nat.le_trans hR.1 hfr, Nat.le_trans hR.2 hlo⟩, hts _ hinst, hts _ hsel⟩ ⟨tj_blind hG, hrec, fun U hU hW => ⟨rfl, by rw [hU], by rw [hU]; exact hP, va_K.moved hW.alike hK, hD.weaken (fun _ _ _ _ => trivial), tj_nwarm hG hW hN⟩⟩ rfl hn hv.1 rfl (lv_room hr0) hdg ⟨hce, hsl⟩) hS (fun q _ h => hFc q h) hFc (fun u t H1 locs1 ht hvm hpost hB hz hk hS1 => ?_)
  subst hpost
  exact kk H1 locs1 ls (ht ▸ hB.1) (hB.2.weaken (fun _ q _ h => hFc q.1 h)) hS1 hv
theorem xw_callSN_v (C : tj_C Γ l0 D0 cls0 nL0 cc own fr lo Ts tys NL) (hT : tj_gT Ts) (hG : tj_gN NL) {y : MethodName} {bytes : ByteArray} {maxL n index f1 l1 : Nat} {As rest : List Value} {σ1 : S} (hM : tj_Mv l0 D0 cls0 tys NL Ts cw y bytes maxL f1 l1 (As) σ σ1) (hcode : Cond.code y bytes maxL none ∈ Ts) (host : String) (hlink : Cond.methodLinkNest own index y host ∈ NL) (hini : Cond.initialized y.cls ∈ Ts) (hstat : Cond.static y ∈ Ts) (hd : y.cls ≠ "java/lang/invoke/MethodHandle" ∧ y.cls ≠ "java/lang/invoke/VarHandle" ∧ (parseMethodDescriptor y.desc).map (fun d => d.parameters.length) = some n) (hR : f1 + 1 ≤ fr ∧ 8 + (maxL + 11) + l1 ≤ lo) (hn : As.length = n) (hst : st = As.reverse ++ rest) (hr0 : (rest.map fun v => v.category).sum ≤ 8) (hdg : decode cc pc = .ok (.invokestatic index, 3)) (kk : tj_W Γ cw σ1 lv (pc + 3) (rest)) : tj_W Γ cw σ lv pc st := by
  obtain ⟨p, l, e, R, s, m, args, below, meth, c, A, H0, cells, slots, Q, D, cls, nL⟩ := Γ
  obtain ⟨hx, hb, hml, hown, hts, hK, hN, hA, hfr, hlo, hce, hsl, rfl, rfl, rfl, rfl⟩ := C
  intro H locs ls hP hD hS hv
  have hFc : ∀ q, va_A (cw σ) H.size q → A q := by
    rintro q (⟨k, e1, h⟩ | h)
    · exact hD.2 k (q, e1) h
    · exact hA q (Nat.le_trans hS.1 h)
  subst hst
  refine va_callv (va_runSN (As := As) (rest := rest) ⟨hx, hb, hml, hown, hts⟩ (hM H.size) ⟨va_cnB n hts (tj_good hT hcode) rfl rfl rfl (hN _ hlink) (hts _ hini) hd ⟨Nat.le_trans hR.1 hfr, Nat.le_trans hR.2 hlo⟩, hts _ hstat, trivial⟩ ⟨tj_blind hG, fun U hU hW => ⟨rfl, by rw [hU], by rw [hU]; exact hP, va_K.moved hW.alike hK, hD.weaken (fun _ _ _ _ => trivial), tj_nwarm hG hW hN⟩⟩ rfl hn hv.1 rfl (lv_room hr0) hdg ⟨hce, hsl⟩) hS (fun q _ h => hFc q h) hFc (fun u t H1 locs1 ht hvm hpost hB hz hk hS1 => ?_)
  subst hpost
  exact kk H1 locs1 ls (ht ▸ hB.1) (hB.2.weaken (fun _ q _ h => hFc q.1 h)) hS1 hv
end tjCalls
