def clrR (rf : Nat → Nat → Nat) (f a i : Nat) : Nat → Nat → Nat := fun g j => if g = f ∧ a ≤ j ∧ j < i then 0 else rf g j
theorem clrR_s {rf : Nat → Nat → Nat} {f a i : Nat} (h : a ≤ i) : upR (clrR rf f a i) f i 0 = clrR rf f a (i + 1) := by
  funext g j
  unfold upR clrR
  by_cases q : g = f ∧ j = i
  · rw [if_pos q, if_pos (by omega)]
  · rw [if_neg q]
    by_cases q2 : g = f ∧ a ≤ j ∧ j < i
    · rw [if_pos q2, if_pos (by omega)]
    · rw [if_neg q2, if_neg (by omega)]
theorem clrR_0 {rf : Nat → Nat → Nat} {f a : Nat} : clrR rf f a a = rf := by
  funext g j
  unfold clrR
  rw [if_neg (by omega)]
theorem clrR_o {rf : Nat → Nat → Nat} {f a i g j : Nat} (h : ¬ (g = f ∧ a ≤ j ∧ j < i)) : clrR rf f a i g j = rf g j := if_neg h
theorem db_G {s t : tj_S} {rf : Nat → Nat → Nat} (hw : ∀ i, i < 92 → s 11 i = t 2 i) {f i : Nat} (hf : f < 6) (hi : i < 6) (hG : fsG (t 2) (rf f) f) (h8 : 2 ≤ i → rf f 6 ≠ 0) : f_Mem_dataBlock (nI f) (nI i) s = some (nI (rf f i), s) := by
  obtain ⟨h2, h3, h4, h5, h6, h7⟩ := hG
  unfold f_Mem_dataBlock
  by_cases q : 2 ≤ i
  · have g2 := (h5 6 (by omega)).1
    rw [if_pos (by rw [show ((2 : Int32) ≤ nI i) = (2 ≤ i) from le_n (a := 2) (by omega) (by omega)]; exact q)]
    rw [show (3 : Int32) = nI 3 from rfl, wd_spec (by omega) (by omega), bd_s, hw (4 * f + 3) (by omega), h4]
    rw [show (nI i - 2 : Int32) = nI (i - 2) from pk_sub (b := 2) q, wd_spec g2 (by omega), bd_s, hw _ (by omega), h6 (h8 q) (i - 2) (by omega), show i - 2 + 2 = i by omega]
  · rw [if_neg (by rw [show ((2 : Int32) ≤ nI i) = (2 ≤ i) from le_n (a := 2) (by omega) (by omega)]; exact q)]
    rw [show (1 + nI i : Int32) = nI (1 + i) from nI_add 1 i, wd_spec (by omega) (by omega), bd_s, hw _ (by omega)]
    have : i = 0 ∨ i = 1 := by omega
    rcases this with rfl | rfl
    · rw [show 4 * f + (1 + 0) = 4 * f + 1 by omega, h2]
    · rw [show 4 * f + (1 + 1) = 4 * f + 2 by omega, h3]
def tlB (a i : Nat) : Bool := decide (a < i ∧ 2 < i)
/-- in the middle of shortening file f: its data blocks a .. i - 1 have gone -/
def shI (s0 t0 : tj_S) (f a : Nat) (rf0 : Nat → Nat → Nat) (i : Nat) (s t : tj_S) (d : Nat) (e : Nat → Nat) : Prop :=
  mR s t (jx (t 3) (rf0 f 6) (tlB a i)) d e (clrR rf0 f a i) ∧ sMm s0 s ∧ tMm t0 t ∧ t 4 = t0 4 ∧
  (∀ j, j < d → ∃ g, g < 6 ∧ ∃ k, k < 6 ∧ clrR rf0 f a i g k = e j) ∧
  (∀ j, j / 4 ≠ 6 → j / 4 ≠ f → (tlB a i = true → j / 4 ≠ rf0 f 6) → t 2 j = t0 2 j) ∧
  (∀ b, b < 23 → b ≠ 6 → (∀ k, k < 6 → rf0 f k ≠ 0 → rf0 f k ≠ b) → t 3 b = t0 3 b) ∧ (∀ b, b < 23 → t 3 b = 1 → t0 3 b = 1 ∨ b = 6) ∧ (t0 3 6 = 1 → t 3 6 = 1) ∧ (a < i → t 3 6 = 1) ∧ (∀ j, j < 4 → (j = 0 ∨ j = 3) → t 2 (4 * f + j) = t0 2 (4 * f + j)) ∧ (i = a → t 2 = t0 2)
section shorten
variable {s0 t0 : tj_S} {c f a n : Nat} {len : Nat → Nat} {rf0 : Nat → Nat → Nat}
theorem sk_3 {ln : Nat} (hln : ln ≤ 24) (hn : n ≤ ln) (km : Int32 → Int32 → tj_S → Option tj_S) (x : Int32) (t : tj_S) : ∀ m i k, i + m = 6 → (ln + 3) / 4 ≤ i → m < k → f_Mod_shorten_L15 (nI f) (nI n) (nI ln) km k x (nI i) t = km x (nI 6) t := by
  intro m
  induction m with
  | zero =>
    intro i k h h1 hk
    obtain ⟨k, rfl⟩ : ∃ q, k = q + 1 := ⟨k - 1, by omega⟩
    have : i = 6 := by omega
    subst this
    rw [f_Mod_shorten_L15, if_pos (by decide)]
  | succ m ih =>
    intro i k h h1 hk
    obtain ⟨k, rfl⟩ : ∃ q, k = q + 1 := ⟨k - 1, by omega⟩
    rw [f_Mod_shorten_L15, if_neg (by rw [show ((6 : Int32) ≤ nI i) = (6 ≤ i) from le_n (a := 6) (by omega) (by omega)]; omega), lnM, if_neg (by rw [lt_n (by omega) (by omega)]; omega), if_pos (by rw [le_n (by omega) (by omega)]; omega), nm_s, nI_s]
    exact ih (i + 1) k (by omega) (by omega) (by omega)
theorem sk_1 {ln : Nat} (hln : ln ≤ 24) (hn : n ≤ ln) (km : Int32 → Int32 → tj_S → Option tj_S) (x : Int32) (t : tj_S) : ∀ m i k, i + m = (n + 3) / 4 → f_Mod_shorten_L15 (nI f) (nI n) (nI ln) km (k + m) x (nI i) t = f_Mod_shorten_L15 (nI f) (nI n) (nI ln) km k x (nI ((n + 3) / 4)) t := by
  intro m
  induction m with
  | zero => intro i k h; rw [show i = (n + 3) / 4 by omega]; rfl
  | succ m ih =>
    intro i k h
    rw [show k + (m + 1) = (k + m) + 1 by omega, f_Mod_shorten_L15, if_neg (by rw [show ((6 : Int32) ≤ nI i) = (6 ≤ i) from le_n (a := 6) (by omega) (by omega)]; omega), lnM, if_pos (by rw [lt_n (by omega) (by omega)]; omega), nm_s, nI_s]
    exact ih (i + 1) k (by omega)
theorem sh_L (hf : f < 6) (hR : fsR (t0 2) len rf0) (hL : lgO t0 c) (hn : n ≤ len f) (ha : a = (n + 3) / 4) (kx : Int32 → tj_S → Option tj_S) (km : Int32 → Int32 → tj_S → Option tj_S) : ∀ m i n1 n2 d (e : Nat → Nat) (s t : tj_S), i + m = (len f + 3) / 4 → a ≤ i → m < n1 → 6 - i < n2 → shI s0 t0 f a rf0 i s t d e →
    ∃ (d1 : Nat) (e1 : Nat → Nat) (s1 t1 : tj_S), f_X_shorten_L22 (nI f) (nI n) (nI ((len f + 3) / 4)) (nI a) kx n1 (nI i) s = kx (nI ((len f + 3) / 4)) s1 ∧ f_Mod_shorten_L15 (nI f) (nI n) (nI (len f)) km n2 (flI (tlB a i)) (nI i) t = km (flI (tlB a ((len f + 3) / 4))) (nI 6) t1 ∧ shI s0 t0 f a rf0 ((len f + 3) / 4) s1 t1 d1 e1 := by
  have hF := hR.1 f hf
  have h24 := hF.1
  intro m
  induction m with
  | zero =>
    intro i n1 n2 d e s t h hai hn1 hn2 hI
    obtain ⟨n1, rfl⟩ : ∃ n, n1 = n + 1 := ⟨n1 - 1, by omega⟩
    have : i = (len f + 3) / 4 := by omega
    subst this
    refine ⟨d, e, s, t, ?_, ?_, hI⟩
    · rw [f_X_shorten_L22, if_pos (Int32.le_refl _)]
    · exact sk_3 h24 hn km _ t (6 - (len f + 3) / 4) _ n2 (by omega) (Nat.le_refl _) hn2
  | succ m ih =>
    intro i n1 n2 d e s t h hai hn1 hn2 hI
    obtain ⟨n1, rfl⟩ : ∃ n, n1 = n + 1 := ⟨n1 - 1, by omega⟩
    obtain ⟨n2, rfl⟩ : ∃ n, n2 = n + 1 := ⟨n2 - 1, by omega⟩
    obtain ⟨i1, i2, i3, i4, i5, i6, i7, i8, i9, i10, i11, -⟩ := hI
    have hi6 : i < 6 := by omega
    have c6 : clrR rf0 f a i f 6 = rf0 f 6 := clrR_o (by omega)
    have ci : clrR rf0 f a i f i = rf0 f i := clrR_o (by omega)
    have hbi := (hF.2.2.2.2.2.1 i hi6).1 (by omega)
    have n6 : 2 ≤ i → 7 ≤ rf0 f 6 := fun q => (hF.2.2.2.2.2.2.1 (by omega)).1
    have hne6 : rf0 f i ≠ rf0 f 6 := fun q => by
      have := hR.2.1 f f i 6 hf hf (by omega) (by omega) (by omega) q
      omega
    have hG := i1.2.2.2.2.1 f hf
    rw [f_X_shorten_L22, if_neg (by rw [le_n (by omega) (by omega)]; omega), if_neg (by rw [show ((6 : Int32) ≤ nI i) = (6 ≤ i) from le_n (a := 6) (by omega) (by omega)]; omega), db_G i1.1 hf hi6 hG (fun q => by rw [c6]; have := n6 q; omega), bd_s]
    rw [f_Mod_shorten_L15, if_neg (by rw [show ((6 : Int32) ≤ nI i) = (6 ≤ i) from le_n (a := 6) (by omega) (by omega)]; omega), lnM, if_neg (by rw [lt_n (by omega) (by omega)]; omega), if_neg (by rw [le_n (by omega) (by omega)]; omega), ce_spec (rf := clrR rf0 f a i) hf hi6 (fun _ => hG.2.2.1), bd_s]
    obtain ⟨d1, e1, s1, t1, w1, w2, w3, w4, w5, w6, w7, w8, w9⟩ := ds_spec (s := s) (t := t) (d := d) (e := e) (rf := clrR rf0 f a i) (tl := tlB a i) hf hi6 (lgO_m hL i3) (by rw [c6]; exact i1) (fun q => by rw [c6]; have := n6 q; omega) (by rw [ci]; omega) (fun q => by unfold tlB; exact decide_eq_false (by omega))
    rw [ci] at w1 w4 w7
    rw [c6, clrR_s hai] at w3
    obtain ⟨s20, v1, v2⟩ := bv_e w1
    rw [ci, v1, bv_s, v2, bv_s, w2, bv_s, nm_s, nI_s]
    have etl : (tlB a i || decide (2 ≤ i)) = tlB a (i + 1) := by
      unfold tlB
      by_cases q : 2 ≤ i
      · rw [decide_eq_true q, Bool.or_true, decide_eq_true (show a < i + 1 ∧ 2 < i + 1 by omega)]
      · rw [decide_eq_false q, Bool.or_false, decide_eq_false (show ¬ (a < i ∧ 2 < i) by omega), decide_eq_false (show ¬ (a < i + 1 ∧ 2 < i + 1) by omega)]
    have hcel : cel (clrR rf0 f a i) f i = if i < 2 then 4 * f + 1 + i else 4 * rf0 f 6 + (i - 2) := by unfold cel; rw [c6]
    have hI1 : shI s0 t0 f a rf0 (i + 1) s1 t1 d1 e1 := by
      refine ⟨by rw [← etl]; exact w3, sMm_t i2 w8, tMm_t i3 w9, by rw [w5, i4], fun j hj => ?_, fun j q1 q2 q3 => ?_, fun b hb q1 q2 => ?_, fun b hb q => ?_, fun q => by rw [w4, upd_at], fun _ => by rw [w4, upd_at], fun j hj q => ?_, fun q => absurd q (by omega)⟩
      · obtain ⟨k, hk, ek, nk⟩ := w7 j hj
        obtain ⟨g, hg, l, hl, el⟩ := i5 k hk
        refine ⟨g, hg, l, hl, ?_⟩
        rw [← clrR_s hai, upR_o (fun q => nk (by rw [← el, q.1, q.2, ci])), el, ek]
      · have k1 : j ≠ cel (clrR rf0 f a i) f i := by
          rw [hcel]
          by_cases q : i < 2
          · rw [if_pos q]; omega
          · rw [if_neg q]
            have := q3 (by unfold tlB; exact decide_eq_true (by omega))
            omega
        rw [w6 j (by omega) k1]
        exact i6 j q1 q2 (fun q => q3 (by rw [← etl, q, Bool.true_or]))
      · rw [w4, upd_o q1, upd_o (fun q => q2 i hi6 (by omega) q.symm)]; exact i7 b hb q1 q2
      · rw [w4] at q
        by_cases k1 : b = 6
        · exact Or.inr k1
        · rw [upd_o k1] at q
          by_cases k2 : b = rf0 f i
          · rw [k2, upd_at] at q; exact absurd q (by decide)
          · rw [upd_o k2] at q; exact i8 b hb q
      · have k1 : 4 * f + j ≠ cel (clrR rf0 f a i) f i := by
          rw [hcel]
          by_cases q2 : i < 2
          · rw [if_pos q2]; omega
          · rw [if_neg q2]
            have := n6 (by omega)
            omega
        rw [w6 _ (by omega) k1]; exact i11 j hj q
    obtain ⟨d2, e2, s2, t2, g1, g2, g3⟩ := ih (i + 1) n1 n2 d1 e1 s1 t1 (by omega) (by omega) (by omega) (by omega) hI1
    refine ⟨d2, e2, s2, t2, g1, ?_, g3⟩
    rw [← g2]
    cases htl : tlB a i
    · rw [if_pos (show flI false = 0 from rfl)]
      by_cases q : i ≤ 1
      · rw [if_pos (by rw [show (nI i ≤ (1 : Int32)) = (i ≤ 1) from le_n (i := 1) (by omega) (by omega)]; exact q), nm_s]
        have : tlB a (i + 1) = false := by unfold tlB; exact decide_eq_false (by omega)
        rw [this]; rfl
      · rw [if_neg (by rw [show (nI i ≤ (1 : Int32)) = (i ≤ 1) from le_n (i := 1) (by omega) (by omega)]; exact q), nm_s]
        have : tlB a (i + 1) = true := by unfold tlB; exact decide_eq_true (by omega)
        rw [this]; rfl
    · rw [if_neg (show ¬ flI true = 0 from by decide), nm_s]
      have : tlB a (i + 1) = true := by rw [← etl, htl]; rfl
      rw [this]; rfl
end shorten
