/-- the end of shortening: the length is set, the inode joined -/
theorem sh_fin {s t s2 t2 : tj_S} {c o d d2 f n : Nat} {z ab e e2 lenC len : Nat → Nat} {rfC rf rf2 : Nat → Nat → Nat} (hR : rPR s t c o d z ab e lenC len rfC rf) (hup : t 0 12 = 1) (hf : f < 6) (hn : n ≤ len f) (h12 : ndv (cn (t 3) 23) (cn (t 4) 23) ≤ 12)
    (hm : mR s2 t2 (t2 3) d2 e2 rf2) (hs : sMm s s2) (ht : tMm t t2) (hrf : ∀ g, g ≠ f → rf2 g = rf g) (hf1 : ∀ i, i < 6 → (4 * i < n → rf2 f i = rf f i) ∧ (n ≤ 4 * i → rf2 f i = 0)) (hf6 : (8 < n → rf2 f 6 = rf f 6) ∧ (n ≤ 8 → rf2 f 6 = 0)) (hdd : ∀ j, j < d2 → ∃ g, g < 6 ∧ ∃ k, k < 6 ∧ rf2 g k = e2 j)
    (hwd : ∀ b, b < 7 → b ≠ f → t2 3 b ≠ 1 → t 3 b ≠ 1 ∧ ∀ w, w < 4 → t2 2 (4 * b + w) = t 2 (4 * b + w)) (hix : ∀ g, g < 6 → rf2 g 6 ≠ 0 → t2 3 (rf2 g 6) ≠ 1 → t 3 (rf2 g 6) ≠ 1 ∧ t2 4 (rf2 g 6) = t 4 (rf2 g 6) ∧ ∀ w, w < 4 → t2 2 (4 * rf2 g 6 + w) = t 2 (4 * rf2 g 6 + w)) (hlen : ∀ g, g < 6 → t2 2 (4 * g) = t 2 (4 * g))
    (h4 : ∀ b, b < 7 → t2 4 b = t 4 b) (h7 : (∃ b, b < 23 ∧ t2 4 b = 1) → t2 3 6 = 1) (hc3 : ∀ b, b < 23 → t2 3 b = 1 → t 3 b = 1 ∨ b = 6 ∨ b = rf f 6) (hc4 : ∀ b, b < 23 → t2 4 b = 1 → t 4 b = 1 ∨ b = rf f 6) :
    rPR (up2 (up2 s2 11 (4 * f) (nI n)) 10 3 (s2 10 3 ||| ((1 : Int32) <<< (nI f &&& 31)))) (up2 (up2 t2 2 (4 * f) (nI n)) 3 f 1) c o d2 z ab e2 lenC (fun g => if g = f then n else len g) rfC rf2 ∧ cn (up2 (up2 t2 2 (4 * f) (nI n)) 3 f 1 3) 23 ≤ cn (t 3) 23 + 3 ∧ cn (up2 (up2 t2 2 (4 * f) (nI n)) 3 f 1 4) 23 ≤ cn (t 4) 23 + 1 := by
  have hU := hR.2 hup
  obtain ⟨r1, r2, r3, r4, r5, r6, r7, r8⟩ := id hU
  obtain ⟨g1, g2, g3, g4, g5, g6, g7⟩ := hm
  obtain ⟨s3, hs3⟩ : ∃ s3, s3 = up2 (up2 s2 11 (4 * f) (nI n)) 10 3 (s2 10 3 ||| ((1 : Int32) <<< (nI f &&& 31))) := ⟨_, rfl⟩
  obtain ⟨t3, ht3⟩ : ∃ t3, t3 = up2 (up2 t2 2 (4 * f) (nI n)) 3 f 1 := ⟨_, rfl⟩
  rw [← hs3, ← ht3]
  have k3 : t3 3 = upd (t2 3) f 1 := by rw [ht3, up2_eq, up2_ne (by omega)]
  have k4 : t3 4 = t2 4 := by rw [ht3, up2_ne (by omega), up2_ne (by omega)]
  have k2 : t3 2 = upd (t2 2) (4 * f) (nI n) := by rw [ht3, up2_ne (by omega), up2_eq]
  have ko : ∀ a, a ≠ 2 → a ≠ 3 → t3 a = t2 a := fun a x y => by rw [ht3, up2_ne y, up2_ne x]
  have l10 : ∀ i, i ≠ 3 → s3 10 i = s2 10 i := fun i hi => by rw [hs3, up2_o hi, up2_ne (by omega)]
  have l11 : s3 11 = upd (s2 11) (4 * f) (nI n) := by rw [hs3, up2_ne (by omega), up2_eq]
  have lo : ∀ a, a ≠ 10 → a ≠ 11 → s3 a = s2 a := fun a x y => by rw [hs3, up2_ne x, up2_ne y]
  have hst : sMm s s3 := sMm_t hs ⟨fun a x y z => lo a x y, l10 5 (by omega)⟩
  have htt : tMm t t3 := tMm_t ht ⟨fun a x y z v w => ko a y z, fun i hi => by rw [ko 0 (by omega) (by omega)]⟩
  have G3 : ∀ g, g < 6 → fsG (t3 2) (rf2 g) g := by
    rw [k2]
    exact G_frame g5 (fun g hg j j1 j2 => upd_o (by omega)) (fun g hg q j hj => upd_o (by have := ((g5 g hg).2.2.2.1 6 (by omega)).2 q; omega))
  have c3 : cn (t3 3) 23 ≤ cn (t 3) 23 + 3 := by
    have x1 := cn_imp (f := t3 3) (g := upd (upd (upd (t 3) 6 1) (rf f 6) 1) f 1) 23 (fun i hi q => by
      rw [k3] at q
      by_cases y : i = f
      · rw [y, upd_at]
      · rw [upd_o y] at q ⊢
        by_cases y2 : i = rf f 6
        · rw [y2, upd_at]
        · rw [upd_o y2]
          by_cases y3 : i = 6
          · rw [y3, upd_at]
          · rw [upd_o y3]
            rcases hc3 i hi q with v | v | v
            · exact v
            · exact absurd v y3
            · exact absurd v y2)
    have x2 := cn_upd1 (f := upd (upd (t 3) 6 1) (rf f 6) 1) (b := f) 23
    have x3 := cn_upd1 (f := upd (t 3) 6 1) (b := rf f 6) 23
    have x4 := cn_upd1 (f := t 3) (b := 6) 23
    split at x2 <;> split at x3 <;> split at x4 <;> omega
  have c4 : cn (t3 4) 23 ≤ cn (t 4) 23 + 1 := by
    have x1 := cn_imp (f := t3 4) (g := upd (t 4) (rf f 6) 1) 23 (fun i hi q => by
      rw [k4] at q
      by_cases y2 : i = rf f 6
      · rw [y2, upd_at]
      · rw [upd_o y2]
        rcases hc4 i hi q with v | v
        · exact v
        · exact absurd v y2)
    have x2 := cn_upd1 (f := t 4) (b := rf f 6) 23
    split at x2 <;> omega
  refine ⟨op_end hR hup hst htt (fun i hi => ?_) ?_ ?_ ?_ ?_ hdd (fun g k hg hk hne => Or.inl ?_) (fun b hb hj => ?_) (fun b hb => ?_) (fun ⟨b, hb, q⟩ => ?_) ?_, c3, c4⟩
  · rw [l11, k2]
    by_cases q : i = 4 * f
    · rw [q, upd_at, upd_at]
    · rw [upd_o q, upd_o q]; exact g1 i hi
  · rw [k3, hs3, up2_at]; exact mk_set (by omega) g2
  · rw [l10 4 (by omega), k4]; exact g3
  · unfold rDir at *; rw [l10 2 (by omega), lo 12 (by omega) (by omega), ko 0 (by omega) (by omega), ko 5 (by omega) (by omega)]; exact g4
  · refine ⟨fun g hg => ?_, g6, map_fsR (by rw [k2, upd_o (by omega)]; exact g7)⟩
    obtain ⟨v1, v2, v3, v4, v5, v6⟩ := G3 g hg
    by_cases q : g = f
    · subst q
      have hF := r1.1 g hg
      dsimp only
      rw [if_pos rfl]
      refine ⟨by have := hF.1; omega, by rw [k2, upd_at], v1, v2, v3, fun i hi => ⟨fun y => ?_, (hf1 i hi).2⟩, fun y => ?_, hf6.2⟩
      · rw [(hf1 i hi).1 y]; exact (hF.2.2.2.2.2.1 i hi).1 (by omega)
      · have e6 := hf6.1 y
        have h78 := hF.2.2.2.2.2.2.1 (by omega)
        exact ⟨by rw [e6]; exact h78.1, by rw [e6]; exact h78.2.1, v5 (by rw [e6]; omega)⟩
    · dsimp only
      rw [if_neg q]
      have hF := r1.1 g hg
      rw [hrf g q] at v1 v2 v3 v4 v5 v6 ⊢
      obtain ⟨p0, p1, p2, p3, p4, p5, p6, p7⟩ := hF
      refine ⟨p0, by rw [k2, upd_o (by omega), hlen g hg]; exact p1, v1, v2, v3, p5, fun y => ⟨(p6 y).1, (p6 y).2.1, v5 (by have := (p6 y).1; omega)⟩, p7⟩
  · by_cases q : g = f
    · subst q
      rcases Nat.lt_or_ge (4 * k) n with y | y
      · exact ⟨g, hg, k, hk, ((hf1 k hk).1 y).symm⟩
      · exact absurd ((hf1 k hk).2 y) hne
    · exact ⟨g, hg, k, hk, by rw [hrf g q]⟩
  · have hbf : b ≠ f := fun q => hj (by rw [k3, q, upd_at])
    have hj2 : t2 3 b ≠ 1 := by rw [k3, upd_o hbf] at hj; exact hj
    rcases hb with q | ⟨q, g, hg, eg⟩
    · obtain ⟨v1, v2⟩ := hwd b q hbf hj2
      exact ⟨Or.inl q, v1, by rw [k4]; exact h4 b q, fun w hw => by rw [k2, upd_o (by omega)]; exact v2 w hw⟩
    · subst eg
      obtain ⟨v1, v2, v3⟩ := hix g hg q hj2
      have h7b := ((g5 g hg).2.2.2.1 6 (by omega)).2 q
      refine ⟨Or.inr ⟨q, g, hg, ?_⟩, v1, by rw [k4]; exact v2, fun w hw => by rw [k2, upd_o (by omega)]; exact v3 w hw⟩
      by_cases y : g = f
      · subst y
        rcases Nat.lt_or_ge 8 n with y2 | y2
        · exact (hf6.1 y2).symm
        · exact absurd (hf6.2 y2) q
      · rw [hrf g y]
  · rw [k4, h4 b hb]; exact r6 b hb
  · rw [k4] at q
    rw [k3, upd_o (by omega)]; exact h7 ⟨b, hb, q⟩
  · unfold ndv at h12
    by_cases q : cn (t 3) 23 = 0
    · have q4 : cn (t 4) 23 = 0 := by
        have : ∀ m, m ≤ 23 → cn (t 4) m = 0 := by
          intro m
          induction m with
          | zero => intro _; rfl
          | succ m ih =>
            intro hm
            show cn (t 4) m + _ = 0
            rw [ih (by omega), if_neg (fun y => ?_)]
            have := cn_pos 23 (show 6 < 23 by omega) (r7 ⟨m, by omega, y⟩)
            omega
        exact this 23 (Nat.le_refl _)
      unfold szf; omega
    · rw [if_neg q] at h12
      unfold szf at *; omega
