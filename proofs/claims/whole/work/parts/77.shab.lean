theorem jx_f {f : Nat → Int32} {ix : Nat} : jx f ix false = f := by
  funext b; unfold jx; rw [if_neg (fun q => absurd q.1 (by decide))]
theorem jx_t {f : Nat → Int32} {ix : Nat} : jx f ix true = upd f ix 1 := by
  funext b; unfold jx upd
  by_cases q : b = ix
  · rw [if_pos ⟨rfl, q⟩, if_pos q]
  · rw [if_neg (fun z => q z.2), if_neg q]
theorem mR_of {s t : tj_S} {c o d : Nat} {z ab e lenC len : Nat → Nat} {rfC rf : Nat → Nat → Nat} (hR : rPR s t c o d z ab e lenC len rfC rf) (hup : t 0 12 = 1) : mR s t (t 3) d e rf := by
  obtain ⟨r1, -⟩ := hR.2 hup
  exact ⟨hR.1.2.2.1.2, hR.1.2.2.2.1.1, hR.1.2.2.2.1.2.1, hR.1.2.2.2.2.1, fsR_G r1, r1.2.1, fsR_map r1⟩
theorem lgO_of {s t : tj_S} {c o d : Nat} {z ab e lenC len : Nat → Nat} {rfC rf : Nat → Nat → Nat} (hR : rPR s t c o d z ab e lenC len rfC rf) : lgO t c := ⟨hR.1.2.2.2.2.2.1.1, hR.1.2.2.2.2.2.1.2.2.2.1, rPR_hH hR, rPR_hG hR⟩
theorem sh_0 {s t : tj_S} {c o d f a : Nat} {z ab e lenC len : Nat → Nat} {rfC rf : Nat → Nat → Nat} (hR : rPR s t c o d z ab e lenC len rfC rf) (hup : t 0 12 = 1) : shI s t f a rf a s t d e := by
  have hU := hR.2 hup
  have e0 : tlB a a = false := by unfold tlB; exact decide_eq_false (by omega)
  refine ⟨?_, ⟨fun _ _ _ _ => rfl, rfl⟩, ⟨fun _ _ _ _ _ _ => rfl, fun _ _ => rfl⟩, rfl, fun j hj => ?_, fun _ _ _ _ => rfl, fun _ _ _ _ => rfl, fun _ _ q => Or.inl q, fun q => q, fun q => absurd q (by omega), fun _ _ _ => rfl, fun _ => rfl⟩
  · rw [e0, jx_f, clrR_0]; exact mR_of hR hup
  · rw [clrR_0]; exact hU.2.2.1 j hj
/-- the joined rows of the reference at the end, where the index stays -/
def tTl (t : tj_S) (ix : Nat) (tl : Bool) : tj_S := if tl = true then up2 t 3 ix 1 else t
theorem tTl_3 {t : tj_S} {ix : Nat} {tl : Bool} : tTl t ix tl 3 = jx (t 3) ix tl := by
  unfold tTl
  cases tl
  · rw [if_neg (by decide), jx_f]
  · rw [if_pos rfl, jx_t, up2_eq]
theorem tTl_o {t : tj_S} {ix a : Nat} {tl : Bool} (h : a ≠ 3) : tTl t ix tl a = t a := by
  unfold tTl
  cases tl
  · rw [if_neg (by decide)]
  · rw [if_pos rfl, up2_ne h]
theorem sh_AB {s t s1 t1 : tj_S} {c o d d1 f n : Nat} {z ab e e1 lenC len : Nat → Nat} {rfC rf : Nat → Nat → Nat} (hR : rPR s t c o d z ab e lenC len rfC rf) (hup : t 0 12 = 1) (hf : f < 6) (hn : n ≤ len f) (h12 : ndv (cn (t 3) 23) (cn (t 4) 23) ≤ 12) (hab : len f ≤ 8 ∨ 8 < n) (hI : shI s t f ((n + 3) / 4) rf ((len f + 3) / 4) s1 t1 d1 e1) :
    rPR (up2 (up2 s1 11 (4 * f) (nI n)) 10 3 (s1 10 3 ||| ((1 : Int32) <<< (nI f &&& 31)))) (up2 (up2 (tTl t1 (rf f 6) (tlB ((n + 3) / 4) ((len f + 3) / 4))) 2 (4 * f) (nI n)) 3 f 1) c o d1 z ab e1 lenC (fun g => if g = f then n else len g) rfC (clrR rf f ((n + 3) / 4) ((len f + 3) / 4)) ∧ cn (up2 (up2 (tTl t1 (rf f 6) (tlB ((n + 3) / 4) ((len f + 3) / 4))) 2 (4 * f) (nI n)) 3 f 1 3) 23 ≤ cn (t 3) 23 + 3 ∧ cn (up2 (up2 (tTl t1 (rf f 6) (tlB ((n + 3) / 4) ((len f + 3) / 4))) 2 (4 * f) (nI n)) 3 f 1 4) 23 ≤ cn (t 4) 23 + 1 := by
  obtain ⟨i1, i2, i3, i4, i5, i6, i7, i8, i9, i10, i11, i12⟩ := hI
  obtain ⟨r1, r2, r3, r4, r5, r6, r7, r8⟩ := hR.2 hup
  have hF := r1.1 f hf
  have h24 := hF.1
  have hl6 := fsF_lt hF 6 (by omega)
  have c6 : ∀ g, clrR rf f ((n + 3) / 4) ((len f + 3) / 4) g 6 = rf g 6 := fun g => clrR_o (by omega)
  have data7 : ∀ k, k < 6 → rf f k ≠ 0 → 7 ≤ rf f k := fun k hk q => ((fsR_G r1 f hf).2.2.2.1 k (by omega)).2 q
  refine sh_fin hR hup hf hn h12 (s2 := s1) (t2 := tTl t1 (rf f 6) (tlB ((n + 3) / 4) ((len f + 3) / 4))) (rf2 := clrR rf f ((n + 3) / 4) ((len f + 3) / 4)) ?_ i2 ?_ (fun g q => ?_) (fun i hi => ⟨fun q => clrR_o (by omega), fun q => ?_⟩) ⟨fun _ => c6 f, fun q => ?_⟩ i5 (fun b hb hbf hj => ?_) (fun g hg q hj => ?_) (fun g hg => ?_) (fun b hb => ?_) (fun ⟨b, hb, q⟩ => ?_) (fun b hb q => ?_) (fun b hb q => ?_)
  · obtain ⟨m1, m2, m3, m4, m5, m6, m7⟩ := i1
    refine ⟨by rw [tTl_o (by omega)]; exact m1, by rw [tTl_3]; exact m2, by rw [tTl_o (by omega)]; exact m3, ?_, by rw [tTl_o (by omega)]; exact m5, m6, by rw [tTl_o (by omega)]; exact m7⟩
    unfold rDir at *; rw [tTl_o (by omega), tTl_o (by omega)]; exact m4
  · exact tMm_t i3 ⟨fun a x y z v w => tTl_o z, fun i hi => by rw [tTl_o (by omega)]⟩
  · funext j; exact clrR_o (by omega)
  · unfold clrR
    by_cases y : i < (len f + 3) / 4
    · rw [if_pos (by omega)]
    · rw [if_neg (by omega)]; exact (hF.2.2.2.2.2.1 i hi).2 (by omega)
  · rw [c6]
    rcases hab with y | y
    · exact hF.2.2.2.2.2.2.2 y
    · omega
  · rw [tTl_3] at hj
    have hjx : t1 3 b ≠ 1 := fun q => hj (by
      unfold jx
      split
      · rfl
      · exact q)
    by_cases b6 : b = 6
    · have na : ¬ (n + 3) / 4 < (len f + 3) / 4 := fun q => hjx (by rw [b6]; exact i10 q)
      have e2 := i12 (by omega)
      refine ⟨fun q => hjx (by rw [b6]; rw [b6] at q; exact i9 q), fun w hw => by rw [tTl_o (by omega), e2]⟩
    · have e3 := i7 b (by omega) b6 (fun k hk q y => by have := data7 k hk q; omega)
      refine ⟨by rw [← e3]; exact hjx, fun w hw => ?_⟩
      rw [tTl_o (by omega)]
      refine i6 _ (by omega) (by omega) (fun q => ?_)
      have hh : 2 < (len f + 3) / 4 := (of_decide_eq_true q).2
      have := (hF.2.2.2.2.2.2.1 (by omega)).1
      omega
  · rw [c6] at q hj ⊢
    rw [tTl_3] at hj
    have b7 := ((fsR_G r1 g hg).2.2.2.1 6 (by omega)).2 q
    have b23 := ((fsR_G r1 g hg).2.2.2.1 6 (by omega)).1
    have hjx : t1 3 (rf g 6) ≠ 1 := fun y => hj (by
      unfold jx
      split
      · rfl
      · exact y)
    have ntl : tlB ((n + 3) / 4) ((len f + 3) / 4) = true → rf g 6 ≠ rf f 6 := fun y y2 => hj (by unfold jx; rw [if_pos ⟨y, y2⟩])
    have e3 := i7 (rf g 6) b23 (by omega) (fun k hk y y2 => by
      have := r1.2.1 f g k 6 hf hg (by omega) (by omega) y y2
      omega)
    refine ⟨by rw [← e3]; exact hjx, by rw [tTl_o (by omega), i4], fun w hw => ?_⟩
    rw [tTl_o (by omega)]
    exact i6 _ (by omega) (by omega) (fun y => by
      rw [show (4 * rf g 6 + w) / 4 = rf g 6 by omega]; exact ntl y)
  · rw [tTl_o (by omega)]
    by_cases y : g = f
    · subst y; exact i11 0 (by omega) (Or.inl rfl)
    · refine i6 _ (by omega) (by omega) (fun q => ?_)
      have hh : 2 < (len f + 3) / 4 := (of_decide_eq_true q).2
      have := (hF.2.2.2.2.2.2.1 (by omega)).1
      omega
  · rw [tTl_o (by omega), i4]
  · rw [tTl_o (by omega), i4] at q
    have := i9 (r7 ⟨b, hb, q⟩)
    rw [tTl_3]; unfold jx
    split
    · rfl
    · exact this
  · rw [tTl_3] at q
    unfold jx at q
    split at q
    · next y => exact Or.inr (Or.inr y.2)
    · rcases i8 b hb q with v | v
      · exact Or.inl v
      · exact Or.inr (Or.inl v)
  · rw [tTl_o (by omega), i4] at q; exact Or.inl q
