theorem rLog_m {s t s1 t1 : tj_S} {c o : Nat} {z ab : Nat → Nat} (hs : sMm s s1) (ht : tMm t t1) (h : rLog s t c o z ab) : rLog s1 t1 c o z ab := by
  unfold rLog at *
  rw [hs.1 4 (by omega) (by omega) (by omega), ht.2 10 (by omega), ht.2 11 (by omega)]
  obtain ⟨q1, q2, q3, q4, q5, q6, q7, q8, q9⟩ := h
  exact ⟨q1, q2, q3, q4, q5, q6, q7, q8, fun k hk => rTx_congr (hs.1 5 (by omega) (by omega) (by omega)) (hs.1 6 (by omega) (by omega) (by omega)) (hs.1 7 (by omega) (by omega) (by omega)) (hs.1 8 (by omega) (by omega) (by omega)) (hs.1 9 (by omega) (by omega) (by omega)) (ht.1 6 (by omega) (by omega) (by omega) (by omega) (by omega)) (ht.1 7 (by omega) (by omega) (by omega) (by omega) (by omega)) (ht.1 8 (by omega) (by omega) (by omega) (by omega) (by omega)) (ht.1 9 (by omega) (by omega) (by omega) (by omega) (by omega)) (q9 k hk)⟩
def rvS (s : tj_S) (ix : Nat) (r : Bool) : tj_S := if r = true then up2 s 10 4 (s 10 4 ||| ((1 : Int32) <<< (nI ix &&& 31))) else s
def rvT (t : tj_S) (ix : Nat) (r : Bool) : tj_S := if r = true then up2 t 4 ix 1 else t
theorem rvS_o {s : tj_S} {ix a : Nat} {r : Bool} (h : a ≠ 10) : rvS s ix r a = s a := by
  unfold rvS; split
  · rw [up2_ne h]
  · rfl
theorem rvS_i {s : tj_S} {ix i : Nat} {r : Bool} (h : i ≠ 4) : rvS s ix r 10 i = s 10 i := by
  unfold rvS; split
  · rw [up2_o h]
  · rfl
theorem rvT_o {t : tj_S} {ix a : Nat} {r : Bool} (h : a ≠ 4) : rvT t ix r a = t a := by
  unfold rvT; split
  · rw [up2_ne h]
  · rfl
theorem rvT_i {t : tj_S} {ix b : Nat} {r : Bool} (h : b ≠ ix) : rvT t ix r 4 b = t 4 b := by
  unfold rvT; split
  · rw [up2_o h]
  · rfl
theorem rv_mk {s t : tj_S} {ix : Nat} {r : Bool} (hx : ix < 23) (h : mk (s 10 4) (t 4)) : mk (rvS s ix r 10 4) (rvT t ix r 4) := by
  unfold rvS rvT
  cases r
  · rw [if_neg (by decide), if_neg (by decide)]; exact h
  · rw [if_pos rfl, if_pos rfl, up2_at, up2_eq]; exact mk_set hx h
theorem sh_C {s t s1 t1 : tj_S} {c o d d1 f n : Nat} {z ab e e1 lenC len : Nat → Nat} {rfC rf : Nat → Nat → Nat} (hR : rPR s t c o d z ab e lenC len rfC rf) (hup : t 0 12 = 1) (hf : f < 6) (hn : n ≤ 8) (hl : 8 < len f) (h12 : ndv (cn (t 3) 23) (cn (t 4) 23) ≤ 12) (hI : shI s t f ((n + 3) / 4) rf ((len f + 3) / 4) s1 t1 d1 e1) : ∃ (s4 t3 : tj_S) (d2 : Nat) (e2 : Nat → Nat), f_X_freeIndex (nI f) s1 = some s4 ∧ f_Mod_release (nI (4 * f + 3)) (1 : Int32) t1 = some t3 ∧ t3 0 12 = 1 ∧
    rPR (up2 (up2 s4 11 (4 * f) (nI n)) 10 3 (s4 10 3 ||| ((1 : Int32) <<< (nI f &&& 31)))) (up2 (up2 t3 2 (4 * f) (nI n)) 3 f 1) c o d2 z ab e2 lenC (fun g => if g = f then n else len g) rfC (upR (clrR rf f ((n + 3) / 4) ((len f + 3) / 4)) f 6 0) ∧ cn (up2 (up2 t3 2 (4 * f) (nI n)) 3 f 1 3) 23 ≤ cn (t 3) 23 + 3 ∧ cn (up2 (up2 t3 2 (4 * f) (nI n)) 3 f 1 4) 23 ≤ cn (t 4) 23 + 1 := by
  obtain ⟨i1, i2, i3, i4, i5, i6, i7, i8, i9, i10, i11, i12⟩ := hI
  obtain ⟨r1, r2, r3, r4, r5, r6, r7, r8⟩ := hR.2 hup
  have hF := r1.1 f hf
  have h24 := hF.1
  have x78 := hF.2.2.2.2.2.2.1 hl
  have htl : tlB ((n + 3) / 4) ((len f + 3) / 4) = true := by unfold tlB; exact decide_eq_true (by omega)
  rw [htl] at i1 i6
  have c6 : ∀ g, clrR rf f ((n + 3) / 4) ((len f + 3) / 4) g 6 = rf g 6 := fun g => clrR_o (by omega)
  have data7 : ∀ k, k < 6 → rf f k ≠ 0 → 7 ≤ rf f k := fun k hk q => ((fsR_G r1 f hf).2.2.2.1 k (by omega)).2 q
  obtain ⟨m1, m2, m3, m4, m5, m6, m7⟩ := id i1
  have hv : t1 2 (4 * f + 3) = nI (rf f 6) := by have := (m5 f hf).2.2.1; rw [c6] at this; exact this
  have hz : ∀ i, 2 ≤ i → i < 6 → clrR rf f ((n + 3) / 4) ((len f + 3) / 4) f i = 0 := fun i y1 y2 => by
    unfold clrR
    by_cases y : i < (len f + 3) / 4
    · rw [if_pos (by omega)]
    · rw [if_neg (by omega)]; exact (hF.2.2.2.2.2.1 i y2).2 (by omega)
  have hG1 := G_idx (v := 0) m5 hf hz (by omega) (fun q => absurd rfl q)
  have hm1 := map_clr m7 m6 hf (show 6 < 7 by omega) (c6 f) x78.1 x78.2.1
  obtain ⟨d2, e2, s2, t2, w1, w2, w3, w4, w5, w6, w7, w8, w9, w10, w11, w12, w13, w14⟩ := fr_spec (rf1 := upR (clrR rf f ((n + 3) / 4) ((len f + 3) / 4)) f 6 0) i1 x78.1 x78.2.1 (show 4 * f + 3 < 92 by omega) (by omega) hv hG1 hm1
  obtain ⟨s3, hs3⟩ : ∃ s3, s3 = up2 s2 11 (4 * f + 3) 0 := ⟨_, rfl⟩
  have hs23 : sMm s2 s3 := ⟨fun a x y z => by rw [hs3, up2_ne y], by rw [hs3, up2_ne (by omega)]⟩
  have hss3 : sMm s s3 := sMm_t (sMm_t i2 w13) hs23
  have htt2 : tMm t t2 := tMm_t i3 w14
  have hL3 := rLog_m hss3 htt2 hR.1.2.2.2.2.2.1
  have hLg := lgO_m (lgO_of hR) htt2
  obtain ⟨rv, hrv⟩ : ∃ rv, rv = (!(decide (t 0 13 = 2)) && liveB t2 c (rf f 6)) := ⟨_, rfl⟩
  have hmode : s3 0 3 = t 0 13 := by rw [hss3.1 0 (by omega) (by omega) (by omega)]; exact hR.1.2.1.1
  have eS : f_X_freeIndex (nI f) s1 = some (rvS s3 (rf f 6) rv) := by
    unfold f_X_freeIndex
    rw [show (3 : Int32) = nI 3 from rfl, wd_spec (by omega) (by omega), bd_s, m1 _ (by omega), hv, w1, bv_s, sw_spec (by omega) (by omega), bv_s, ← hs3, hmode]
    by_cases q : t 0 13 = 2
    · rw [if_pos q, hrv, decide_eq_true q]; rfl
    · rw [if_neg q, hl_spec hL3 x78.2.1, bd_s, hrv, decide_eq_false q]
      cases liveB t2 c (rf f 6)
      · rw [if_pos (show flI false = 0 from rfl)]; rfl
      · rw [if_neg (show ¬ flI true = 0 from by decide), rv_spec x78.2.1, bv_s]; rfl
  have eT : f_Mod_release (nI (4 * f + 3)) (1 : Int32) t1 = some (rvT t2 (rf f 6) rv) := by
    rw [w2, show (0 : Int32) = flI false from rfl]
    have := rl_L (b := rf f 6) x78.2.1 hLg.1 hLg.2.1 hLg.2.2.1 hLg.2.2.2 (nI (4 * f + 3)) (1 : Int32) (relK (nI (4 * f + 3)) (1 : Int32) (nI (rf f 6))) c 0 100 false (by omega) (by have := hLg.1; omega)
    refine Eq.trans this ?_
    unfold relK
    rw [if_neg h10, htt2.2 13 (by omega), Bool.false_or, show anyB (fun k => lvc t2 c true k (rf f 6)) 0 c = liveB t2 c (rf f 6) from rfl]
    by_cases q : t 0 13 = 2
    · rw [if_pos q, hrv, decide_eq_true q]; rfl
    · rw [if_neg q, hrv, decide_eq_false q]
      cases liveB t2 c (rf f 6)
      · rw [if_pos (show flI false = 0 from rfl)]; rfl
      · rw [if_neg (show ¬ flI true = 0 from by decide), gd_in x78.2.1 (by omega), nm_s, cl_n (by omega), vn01 (Or.inr rfl)]; rfl
  refine ⟨_, _, d2, e2, eS, eT, by rw [rvT_o (by omega), htt2.2 12 (by omega)]; exact hup, ?_⟩
  have u3 : ∀ b, b ≠ 6 → b ≠ rf f 6 → rvT t2 (rf f 6) rv 3 b = t1 3 b := fun b y1 y2 => by rw [rvT_o (by omega), w7, upd_o y1, upd_o y2]
  have u36 : rvT t2 (rf f 6) rv 3 6 = 1 := by rw [rvT_o (by omega), w7, upd_at]
  have u2 : ∀ j, j ≠ 24 → j ≠ 4 * f + 3 → rvT t2 (rf f 6) rv 2 j = t1 2 j := fun j y1 y2 => by rw [rvT_o (by omega), w4, if_neg y1, if_neg y2]
  have u4 : ∀ b, b ≠ rf f 6 → rvT t2 (rf f 6) rv 4 b = t 4 b := fun b y => by rw [rvT_i y, w8, i4]
  refine sh_fin hR hup hf (by omega) h12 (rf2 := upR (clrR rf f ((n + 3) / 4) ((len f + 3) / 4)) f 6 0) ⟨fun i hi => ?_, ?_, rv_mk x78.2.1 ?_, ?_, ?_, uniq_clr m6 f 6, ?_⟩ ?_ ?_ (fun g q => ?_) (fun i hi => ⟨fun q => ?_, fun q => ?_⟩) ⟨fun q => absurd q (by omega), fun _ => upR_at⟩ (fun j hj => ?_) (fun b hb hbf hj => ?_) (fun g hg q hj => ?_) (fun g hg => ?_) (fun b hb => u4 b (by omega)) (fun _ => u36) (fun b hb q => ?_) (fun b hb q => ?_)
  · rw [rvS_o (by omega), rvT_o (by omega), hs3, up2_eq, w4]
    by_cases y : i = 4 * f + 3
    · rw [y, upd_at, if_neg (by omega), if_pos rfl]
    · rw [upd_o y, w3 i hi]
      by_cases y2 : i = 24
      · rw [if_pos y2, if_pos y2]
      · rw [if_neg y2, if_neg y2, if_neg y]; exact m1 i hi
  · rw [rvS_i (by omega), rvT_o (by omega), hs3, up2_ne (by omega), w7]
    refine mk_congr (fun x hx => ?_) w5
    rw [jx_t]
    by_cases y : x = rf f 6
    · rw [y, upd_at, upd_o (by omega), upd_at]
    · rw [upd_o (show x ≠ rf f 6 from y)]
      by_cases y2 : x = 6
      · rw [y2, upd_at, upd_at]
      · rw [upd_o y2, upd_o y, upd_o y2, upd_o y]
  · rw [hs3, up2_ne (by omega), w6, w8]; exact m3
  · unfold rDir at *; rw [rvS_i (by omega), rvS_o (by omega), rvT_o (by omega), rvT_o (by omega), hs3, up2_ne (by omega), up2_ne (by omega)]; exact w9
  · rw [rvT_o (by omega)]; exact w11
  · rw [rvT_o (by omega)]; exact w12
  · exact sMm_t hss3 ⟨fun a x y z => rvS_o x, rvS_i (by omega)⟩
  · exact tMm_t htt2 ⟨fun a x y z v w => rvT_o v, fun i hi => by rw [rvT_o (by omega)]⟩
  · funext j; rw [upR_o (by omega)]; exact clrR_o (by omega)
  · rw [upR_o (by omega)]; exact clrR_o (by omega)
  · rw [upR_o (by omega)]
    unfold clrR
    by_cases y : i < (len f + 3) / 4
    · rw [if_pos (by omega)]
    · rw [if_neg (by omega)]; exact (hF.2.2.2.2.2.1 i hi).2 (by omega)
  · obtain ⟨k, hk, ek, nk⟩ := w10 j hj
    obtain ⟨g, hg, l, hl2, el⟩ := i5 k hk
    exact ⟨g, hg, l, hl2, by rw [upR_o (by omega), el, ek]⟩
  · have b6 : b ≠ 6 := fun y => hj (by rw [y]; exact u36)
    rw [u3 b b6 (by omega)] at hj
    have e3 := i7 b (by omega) b6 (fun k hk q y => by have := data7 k hk q; omega)
    exact ⟨by rw [← e3]; exact hj, fun w hw => by rw [u2 _ (by omega) (by omega)]; exact i6 _ (by omega) (by omega) (fun _ => by omega)⟩
  · have gf : g ≠ f := fun y => q (by rw [y]; exact upR_at)
    have eg : upR (clrR rf f ((n + 3) / 4) ((len f + 3) / 4)) f 6 0 g 6 = rf g 6 := by rw [upR_o (by omega), c6]
    rw [eg] at q hj ⊢
    have b7 := ((fsR_G r1 g hg).2.2.2.1 6 (by omega)).2 q
    have b23 := ((fsR_G r1 g hg).2.2.2.1 6 (by omega)).1
    have nx : rf g 6 ≠ rf f 6 := fun y => gf (r1.2.1 g f 6 6 hg hf (by omega) (by omega) q y).1
    rw [u3 _ (by omega) nx] at hj
    have e3 := i7 (rf g 6) b23 (by omega) (fun k hk y y2 => by
      have := r1.2.1 f g k 6 hf hg (by omega) (by omega) y y2
      omega)
    exact ⟨by rw [← e3]; exact hj, u4 _ nx, fun w hw => by rw [u2 _ (by omega) (by omega)]; exact i6 _ (by omega) (by omega) (fun _ => by omega)⟩
  · rw [u2 _ (by omega) (by omega)]
    by_cases y : g = f
    · subst y; exact i11 0 (by omega) (Or.inl rfl)
    · exact i6 _ (by omega) (by omega) (fun _ => by omega)
  · by_cases y : b = 6
    · exact Or.inr (Or.inl y)
    · by_cases y2 : b = rf f 6
      · exact Or.inr (Or.inr y2)
      · rw [u3 b y y2] at q
        rcases i8 b hb q with v | v
        · exact Or.inl v
        · exact absurd v y
  · by_cases y2 : b = rf f 6
    · exact Or.inr y2
    · rw [u4 b y2] at q; exact Or.inl q
