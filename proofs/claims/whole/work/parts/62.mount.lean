theorem rcv_all {t : tj_S} {c b w : Nat} (hb : b < 23) (hw : w < 4) (hq : qH t c false c 0) : ∀ k0, k0 ≤ c → (∀ j, k0 ≤ j → j < c → hs t j b ≠ 1 ∧ gn t j b ≠ 1) → rcv t b w k0 = t 1 (4 * b + w)
  | 0, _, _ => rfl
  | k0 + 1, h2, h3 => by
    unfold rcv
    by_cases q : hs t k0 b = 1
    · rw [if_pos q]
      have hl : lvc t c false k0 b = true := by
        unfold lvc ltr
        rw [decide_eq_true q, Bool.true_and, Bool.not_eq_true']
        cases hx : anyB (fun j => decide (gn t j b = 1) || (false && decide (hs t j b = 1))) (k0 + 1) (c - (k0 + 1))
        · rfl
        · obtain ⟨j, a1, a2, a3⟩ := (anyB_iff _).mp hx
          have := h3 j a1 (by omega)
          simp [this.1, this.2] at a3
      exact (hq k0 b (Or.inl (by omega)) hb hl (fun k1 h4 h5 => by
        rcases h5 with h5 | h5
        · have := h3 k1 (by omega) (by omega)
          unfold lvc; simp [this.1]
        · omega) w hw).symm
    · rw [if_neg q]
      by_cases q2 : gn t k0 b = 1
      · rw [if_pos q2]
      · rw [if_neg q2]
        exact rcv_all hb hw hq k0 (by omega) (fun j h4 h5 => by
          by_cases q3 : j = k0
          · subst q3; exact ⟨q, q2⟩
          · exact h3 j (by omega) h5)
theorem m90_L (y1 y2 : Int32) (k : Int32 → tj_S → Option (Int32 × tj_S)) : ∀ m b n (u : tj_S), b + m = 92 → f_Mod_mount_L90 y1 y2 k (n + m + 1) (nI b) u = k (nI 92) (st2 u 2 (fun i => if b ≤ i ∧ i < 92 then u 1 i else u 2 i)) := by
  intro m
  induction m with
  | zero =>
    intro b n u h
    have : b = 92 := by omega
    subst this
    rw [f_Mod_mount_L90, if_pos (by decide)]
    congr 1
    funext a
    by_cases q : a = 2
    · subst q; rw [st2_eq]; funext i; rw [if_neg (by omega)]
    · rw [st2_ne q]
  | succ m ih =>
    intro b n u h
    rw [show n + (m + 1) + 1 = (n + m + 1) + 1 by omega, f_Mod_mount_L90, if_neg (by rw [show ((92 : Int32) ≤ nI b) = (92 ≤ b) from le_n (a := 92) (by omega) (by omega)]; omega)]
    rw [gd_in (by omega) (by omega), gd_in (by omega) (by omega), nm_s, nm_s, cl_n (by omega), nI_s, ih (b + 1) n _ (by omega)]
    congr 1
    funext a
    by_cases q : a = 2
    · subst q; rw [st2_eq, st2_eq]; funext i
      rw [up2_ne (show 1 ≠ 2 by omega)]
      by_cases q1 : i = b
      · subst q1; rw [if_neg (by omega), if_pos (by omega), up2_at]
      · by_cases q2 : b ≤ i ∧ i < 92
        · rw [if_pos (by omega), if_pos q2]
        · rw [if_neg (by omega), if_neg q2, up2_o q1]
    · rw [st2_ne q, st2_ne q, up2_ne q]
theorem m116_L (y1 y2 : Int32) (k : Int32 → tj_S → Option (Int32 × tj_S)) : ∀ m b n (u : tj_S), b + m = 23 → f_Mod_mount_L116 y1 y2 k (n + m + 1) (nI b) u = k (nI 23) (st2 (st2 u 3 (fun i => if b ≤ i ∧ i < 23 then 0 else u 3 i)) 4 (fun i => if b ≤ i ∧ i < 23 then 0 else u 4 i)) := by
  intro m
  induction m with
  | zero =>
    intro b n u h
    have : b = 23 := by omega
    subst this
    rw [f_Mod_mount_L116, if_pos (by decide)]
    congr 1
    funext a
    by_cases q : a = 4
    · subst q; rw [st2_eq]; funext i; rw [if_neg (by omega)]
    · rw [st2_ne q]
      by_cases q : a = 3
      · subst q; rw [st2_eq]; funext i; rw [if_neg (by omega)]
      · rw [st2_ne q]
  | succ m ih =>
    intro b n u h
    rw [show n + (m + 1) + 1 = (n + m + 1) + 1 by omega, f_Mod_mount_L116, if_neg (by rw [show ((23 : Int32) ≤ nI b) = (23 ≤ b) from le_n (a := 23) (by omega) (by omega)]; omega)]
    rw [gd_in (by omega) (by omega), nm_s, gd_in (by omega) (by omega), nm_s, nm_s, cl_n (by omega), nI_s, vn01 (Or.inl rfl), ih (b + 1) n _ (by omega)]
    congr 1
    funext a
    by_cases q : a = 4
    · subst q; rw [st2_eq, st2_eq]; funext i
      by_cases q1 : i = b
      · subst q1; rw [if_neg (by omega), if_pos (by omega), up2_at]
      · by_cases q2 : b ≤ i ∧ i < 23
        · rw [if_pos (by omega), if_pos q2]
        · rw [if_neg (by omega), if_neg q2, up2_o q1, up2_ne (by omega)]
    · rw [st2_ne q, st2_ne q]
      by_cases q3 : a = 3
      · subst q3; rw [st2_eq, st2_eq]; funext i
        rw [up2_ne (show 3 ≠ 4 by omega)]
        by_cases q1 : i = b
        · subst q1; rw [if_neg (by omega), if_pos (by omega), up2_at]
        · by_cases q2 : b ≤ i ∧ i < 23
          · rw [if_pos (by omega), if_pos q2]
          · rw [if_neg (by omega), if_neg q2, up2_o q1]
      · rw [st2_ne q3, st2_ne q3, up2_ne q, up2_ne q3]
theorem m90_100 (y1 y2 : Int32) (k : Int32 → tj_S → Option (Int32 × tj_S)) (u : tj_S) : f_Mod_mount_L90 y1 y2 k 100 (0 : Int32) u = k (nI 92) (st2 u 2 (fun i => if 0 ≤ i ∧ i < 92 then u 1 i else u 2 i)) := by
  have h := m90_L y1 y2 k 92 0 7 u (by omega)
  rw [show (7 + 92 + 1 : Nat) = 100 from rfl] at h
  exact h
theorem m116_100 (y1 y2 : Int32) (k : Int32 → tj_S → Option (Int32 × tj_S)) (u : tj_S) : f_Mod_mount_L116 y1 y2 k 100 (0 : Int32) u = k (nI 23) (st2 (st2 u 3 (fun i => if 0 ≤ i ∧ i < 23 then 0 else u 3 i)) 4 (fun i => if 0 ≤ i ∧ i < 23 then 0 else u 4 i)) := by
  have h := m116_L y1 y2 k 23 0 76 u (by omega)
  rw [show (76 + 23 + 1 : Nat) = 100 from rfl] at h
  exact h
theorem c92 : (92 : Int32).toNatClampNeg = 92 := by decide +kernel
theorem c0 : (0 : Int32).toNatClampNeg = 0 := by decide +kernel
def mtM (a x : Int32) (t : tj_S) : Option (Int32 × tj_S) :=
  nm (up2 t 0 10 (0 : Int32)) fun s15 =>
  nm (up2 s15 0 12 (1 : Int32)) fun s16 =>
  nm (up2 s16 0 13 a) fun s17 =>
  nm (up2 s17 0 5 (0 : Int32)) fun s18 =>
  f_Mod_mount_L90 a x (fun x30 s31 =>
    f_Mod_mount_L116 a x (fun x44 s45 =>
      gd (inb (24 : Int32) 92) <|
      nm (up2 s45 0 16 (s45 2 (Int32.toNatClampNeg (24 : Int32)))) fun s47 =>
      some (x, s47)) 100 (0 : Int32) s31) 100 (0 : Int32) s18
/-- the end of a mount: memory is loaded from home -/
theorem mt_end {s t : tj_S} {a : Int32} {p : Nat} (ha : a = nI p) (hp : p < 3) {o P : Nat} (ho : o < 8) {lenC : Nat → Nat} {rfC : Nat → Nat → Nat} (hw : ∀ i, i < 92 → s 3 i = t 1 i) (h11 : s 1 1 = t 0 14) (h12 : s 1 2 = t 0 15) (h46 : s 4 6 = 0) (h45 : s 4 5 = nI o) (h47 : s 4 7 = nI (P % 24)) (t11 : t 0 11 = nI (P % 24)) (hf : fsR (t 1) lenC rfC) (x : Int32) : ∃ (s1 t1 : tj_S), (bv (f_Mem_load_3 s) fun s6 => nm (up2 s6 0 3 a) fun s7 => nm (up2 s7 1 0 (1 : Int32)) fun s8 => some (x, s8)) = some (x, s1) ∧ mtM a x t = some (x, t1) ∧ pRel s1 t1 := by
  unfold f_Mem_load_3 f_Mem_startTransaction f_Mem_blocksInUse mtM
  rw [gd_t (show cpb (0 : Int32) (0 : Int32) (92 : Int32) 92 92 = true from by decide +kernel), nm_s, nm_s, nm_s, nm_s, gd_t (show inb (24 : Int32) 92 = true from by decide +kernel), bd_s, nm_s, bv_s, bv_s, nm_s, nm_s]
  rw [nm_s, nm_s, nm_s, nm_s, m90_100]
  generalize hu : st2 (up2 (up2 (up2 (up2 t 0 10 0) 0 12 1) 0 13 a) 0 5 0) 2 (fun i => if 0 ≤ i ∧ i < 92 then up2 (up2 (up2 (up2 t 0 10 0) 0 12 1) 0 13 a) 0 5 0 1 i else up2 (up2 (up2 (up2 t 0 10 0) 0 12 1) 0 13 a) 0 5 0 2 i) = u
  rw [m116_100, gd_t (show inb (24 : Int32) 92 = true from by decide +kernel), nm_s]
  refine ⟨_, _, rfl, rfl, ?_⟩
  generalize hs1 : up2 (up2 (up2 (up2 (up2 (up2 (st2 s 11 _) 10 2 0) 10 3 0) 10 4 0) 10 5 _) 0 3 a) 1 0 1 = s1
  generalize ht1 : up2 (st2 (st2 u 3 _) 4 _) 0 16 _ = t1
  have u1 : u 1 = t 1 := by rw [← hu, st2_ne (by omega), up2_ne (by omega), up2_ne (by omega), up2_ne (by omega), up2_ne (by omega)]
  have u2 : ∀ i, i < 92 → u 2 i = t 1 i := fun i hi => by rw [← hu, st2_eq, if_pos (by omega), up2_ne (by omega), up2_ne (by omega), up2_ne (by omega), up2_ne (by omega)]
  have u0 : ∀ i, u 0 i = if i = 5 then 0 else if i = 13 then a else if i = 12 then 1 else if i = 10 then 0 else t 0 i := fun i => by
    rw [← hu, st2_ne (by omega)]; simp only [up2_eq, upd]
  have c24 : (24 : Int32).toNatClampNeg = 24 := by decide +kernel
  have k1 : t1 1 = t 1 := by rw [← ht1, up2_ne (by omega), st2_ne (by omega), st2_ne (by omega), u1]
  have k2 : ∀ i, i < 92 → t1 2 i = t 1 i := fun i hi => by rw [← ht1, up2_ne (by omega), st2_ne (by omega), st2_ne (by omega)]; exact u2 i hi
  have k3 : ∀ i, i < 23 → t1 3 i = 0 := fun i hi => by rw [← ht1, up2_ne (by omega), st2_ne (by omega), st2_eq, if_pos (by omega)]
  have k4 : ∀ i, i < 23 → t1 4 i = 0 := fun i hi => by rw [← ht1, up2_ne (by omega), st2_eq, if_pos (by omega)]
  have k0 : ∀ i, i ≠ 16 → t1 0 i = u 0 i := fun i hi => by rw [← ht1, up2_o hi, st2_ne (by omega), st2_ne (by omega)]
  have k16 : t1 0 16 = t 1 24 := by rw [← ht1, up2_at, c24, st2_ne (by omega), st2_ne (by omega)]; exact u2 24 (by omega)
  have e3 : s1 3 = s 3 := by rw [← hs1]; simp only [up2, st2]; rfl
  have e4 : s1 4 = s 4 := by rw [← hs1]; simp only [up2, st2]; rfl
  have e11 : ∀ i, i < 92 → s1 11 i = s 3 i := fun i hi => by
    rw [← hs1, up2_ne (by omega), up2_ne (by omega), up2_ne (by omega), up2_ne (by omega), up2_ne (by omega), up2_ne (by omega), st2_eq]
    unfold va_cpy
    rw [if_pos (by rw [c0, c92]; omega), c0, show 0 + (i - 0) = i by omega]
  have e10 : s1 10 2 = 0 ∧ s1 10 3 = 0 ∧ s1 10 4 = 0 := by
    rw [← hs1]; simp [up2, upd]
  have e105 : s1 10 5 = s 3 24 := by
    have := e11 24 (by omega)
    rw [← this, ← hs1]
    simp [up2, upd, c24]
  have e1 : s1 1 0 = 1 ∧ s1 1 1 = s 1 1 ∧ s1 1 2 = s 1 2 ∧ s1 0 3 = a := by
    rw [← hs1]; simp [up2, upd, st2]
  have cz3 : cn (t1 3) 23 = 0 := by rw [cn_congr (g := fun _ => 0) 23 k3]; decide
  have cz4 : cn (t1 4) 23 = 0 := by rw [cn_congr (g := fun _ => 0) 23 k4]; decide
  have mk0 : ∀ f : Nat → Int32, (∀ i, i < 23 → f i = 0) → mk 0 f := fun f hf0 => ⟨fun i hi => by
    rw [b_0]
    by_cases q : i < 23
    · rw [hf0 i q]; simp
    · simp [q], fun i hi => Or.inl (hf0 i hi)⟩
  have hfm : ∀ w1 : Nat → Int32, (∀ i, i < 92 → w1 i = t 1 i) → fsR w1 lenC rfC := fun w1 h => fsR_meta hf (fun b hb j hj => by
    have hb23 : b < 23 := by
      rcases hb with h | ⟨f, hf1, h8, h⟩
      · omega
      · rw [← h]; exact fsF_lt (hf.1 f hf1) 6 (by omega)
    exact h _ (by omega))
  refine ⟨0, o, 0, fun _ => 0, fun _ => P, fun _ => 0, lenC, rfC, ⟨⟨?_, ?_, ?_, ?_⟩, ⟨?_, ?_⟩, ⟨?_, ?_⟩, ⟨?_, ?_, ?_⟩, ⟨by omega, ?_, ?_, fun i hi => absurd hi (by omega), fun i j hi => absurd hi (by omega)⟩, ⟨by omega, ho, ?_, ?_, ?_, ?_, ?_, ?_, fun k hk => absurd hk (by omega)⟩, ?_⟩, fun _ => ⟨lenC, rfC, ?_⟩⟩
  · rw [e1.1, k0 12 (by omega), u0]; rfl
  · rw [e1.2.1, h11, k0 14 (by omega), u0]; rfl
  · rw [e1.2.2.1, h12, k0 15 (by omega), u0]; rfl
  · right; rw [k0 12 (by omega), u0]; rfl
  · rw [e1.2.2.2, k0 13 (by omega), u0]; rfl
  · rw [k0 13 (by omega), u0]
    simp only [show ¬ (13 : Nat) = 5 from by decide, if_false, if_true]
    rw [ha]
    have : p = 0 ∨ p = 1 ∨ p = 2 := by omega
    rcases this with rfl | rfl | rfl
    · left; rfl
    · right; left; rfl
    · right; right; rfl
  · intro i hi; rw [e3, k1]; exact hw i hi
  · intro i hi; rw [e11 i hi, k2 i hi]; exact hw i hi
  · rw [e10.2.1]; exact mk0 _ k3
  · rw [e10.2.2]; exact mk0 _ k4
  · rw [e105, k16]; exact hw 24 (by omega)
  · rw [e10.1]; rfl
  · rw [k0 5 (by omega), u0]; rfl
  · rw [e4, h46]; rfl
  · rw [k0 10 (by omega), u0]; rfl
  · rw [e4, h45]
  · rw [e4, h47]
  · rw [k0 11 (by omega), u0]; exact t11
  · dsimp only; omega
  · refine hfm _ (fun i hi => ?_)
    show t1 1 (4 * (i / 4) + i % 4) = _
    rw [k1, show 4 * (i / 4) + i % 4 = i by omega]
  · refine ⟨hfm _ k2, ?_, fun i hi => absurd hi (by omega), fun f g i hf1 hg1 hi hn q => ?_, fun b hb _ => ⟨?_, fun w hw => ?_⟩, fun b hb => ?_, fun ⟨b, hb, q⟩ => ?_, ?_⟩
    · rw [k16]; show _ = t1 1 24; rw [k1]
    · have := hf.2.1 f g 6 i hf1 hg1 (by omega) (by omega) hn q.symm
      omega
    · have hb23 : b < 23 := by
        rcases hb with h | ⟨-, f, hf1, h⟩
        · omega
        · rw [← h]; exact fsF_lt (hf.1 f hf1) 6 (by omega)
      rw [k4 b hb23]; decide
    · have hb23 : b < 23 := by
        rcases hb with h | ⟨-, f, hf1, h⟩
        · omega
        · rw [← h]; exact fsF_lt (hf.1 f hf1) 6 (by omega)
      show _ = t1 1 (4 * b + w)
      rw [k2 _ (by omega), k1]
    · rw [k4 b (by omega)]; decide
    · rw [k4 b hb] at q; exact absurd q (by decide)
    · rw [cz3, cz4]; decide
