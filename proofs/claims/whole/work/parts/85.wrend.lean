/-- file f has grown to length L in memory (or has that length): both sides before the word is set -/
def wG (s t : tj_S) (f L : Nat) (rf : Nat → Nat → Nat) (s1 t1 : tj_S) (d : Nat) (e : Nat → Nat) (rf1 : Nat → Nat → Nat) : Prop :=
  mR s1 t1 (t1 3) d e rf1 ∧ sMm s s1 ∧ tMm t t1 ∧ t1 4 = t 4 ∧
  (∀ g, g < 6 → g ≠ f → t1 2 (4 * g) = t 2 (4 * g)) ∧ t1 2 (4 * f) = nI L ∧ (∀ g, g ≠ f → rf1 g = rf g) ∧
  (∀ i, i < 6 → (4 * i < L → rf1 f i ≠ 0) ∧ (L ≤ 4 * i → rf1 f i = 0)) ∧ (8 < L → rf1 f 6 ≠ 0) ∧ (L ≤ 8 → rf1 f 6 = 0) ∧
  (∀ k, k < 7 → rf f k ≠ 0 → rf1 f k = rf f k) ∧ (∀ k, k < 6 → rf1 f k ≠ 0 → rf f k = rf1 f k ∨ bt (t 0 16) (rf1 f k - 7) = false) ∧
  (∀ b, (b < 7 ∨ (b ≠ 0 ∧ ∃ g, g < 6 ∧ rf1 g 6 = b)) → t1 3 b ≠ 1 → (b < 7 ∨ (b ≠ 0 ∧ ∃ g, g < 6 ∧ rf g 6 = b)) ∧ t 3 b ≠ 1 ∧ ∀ w, w < 4 → t1 2 (4 * b + w) = t 2 (4 * b + w)) ∧
  (∀ b, b < 23 → t1 3 b = 1 → t 3 b = 1 ∨ b = 6 ∨ b = f ∨ b = rf1 f 6) ∧ (t 3 6 = 1 → t1 3 6 = 1)
theorem wr_end {s t s1 t1 : tj_S} {c o d f p L : Nat} {z ab e lenC len : Nat → Nat} {rfC rf rf1 : Nat → Nat → Nat} (hR : rPR s t c o d z ab e lenC len rfC rf) (hup : t 0 12 = 1) (hf : f < 6) (hpL : p < L) (hL : L ≤ 24) (h12 : ndv (cn (t 3) 23) (cn (t 4) 23) ≤ 12) (hG : wG s t f L rf s1 t1 d e rf1) (v : Int32) : ∃ (s2 t2 : tj_S), f_X_setDataWord (nI f) (nI p) v s1 = some s2 ∧ wrT (nI f) (nI p) v t1 = some (1, t2) ∧ pRel s2 t2 := by
  obtain ⟨h1, h2, h3, h4, h5, h6, h7, h8, h9, h10', h11, h13, h14, h15, h16⟩ := hG
  obtain ⟨r1, r2, r3, r4, r5, r6, r7, r8⟩ := id (hR.2 hup)
  have hm : s1 0 3 = t1 0 13 := by rw [h2.1 0 (by omega) (by omega) (by omega), h3.2 13 (by omega)]; exact hR.1.2.1.1
  have hb := (h8 (p / 4) (by omega)).1 (by omega)
  obtain ⟨d2, e2, s2, t2, w1, w2, w3, w4, w5, w6, w7, w8, w9, w10, w11, w12⟩ := sd_spec (o := p) hf (by omega) h1 hm hb (fun q => h9 (by omega)) v
  obtain ⟨g1, g2, g3, g4, g5, g6, g7⟩ := h1
  have hb7 := ((g5 f hf).2.2.2.1 (p / 4) (by omega)).2 hb
  have hb23 := ((g5 f hf).2.2.2.1 (p / 4) (by omega)).1
  have nix : ∀ g, g < 6 → rf1 g 6 ≠ 0 → rf1 g 6 ≠ rf1 f (p / 4) := fun g hg q y => by
    have := g6 g f 6 (p / 4) hg hf (by omega) (by omega) q y
    omega
  refine ⟨s2, t2, w1, w2, rPR_p (op_end (d1 := d2) (e1 := e2) (len1 := fun g => if g = f then L else len g) (rf1 := rf1) hR hup (sMm_t h2 w11) (tMm_t h3 w12) w3 w5 w7 w9 ⟨fun g hg => ?_, g6, map_fsR ?_⟩ (fun j hj => ?_) (fun g k hg hk q => ?_) (fun b hb1 hj => ?_) (fun b hb1 => ?_) (fun ⟨b, hb1, q⟩ => ?_) ?_)⟩
  · have G2 : ∀ g, g < 6 → fsG (t2 2) (rf1 g) g := by
      rw [w4]
      exact G_frame g5 (fun g hg j j1 j2 => upd_o (by omega)) (fun g hg q j hj => upd_o (by have := nix g hg q; omega))
    obtain ⟨v1, v2, v3, v4, v5, v6⟩ := G2 g hg
    by_cases q : g = f
    · subst q
      dsimp only
      rw [if_pos rfl]
      refine ⟨hL, by rw [w4, upd_o (by omega)]; exact h6, v1, v2, v3, fun i hi => ⟨fun y => ?_, (h8 i hi).2⟩, fun y => ?_, h10'⟩
      · exact ⟨(v4 i (by omega)).2 ((h8 i hi).1 y), (v4 i (by omega)).1⟩
      · exact ⟨(v4 6 (by omega)).2 (h9 y), (v4 6 (by omega)).1, v5 (h9 y)⟩
    · dsimp only
      rw [if_neg q]
      have hF := r1.1 g hg
      rw [h7 g q] at v1 v2 v3 v4 v5 v6 ⊢
      obtain ⟨p0, p1, p2, p3, p4, p5, p6, p7⟩ := hF
      refine ⟨p0, by rw [w4, upd_o (by omega), h5 g hg q]; exact p1, v1, v2, v3, p5, fun y => ⟨(p6 y).1, (p6 y).2.1, v5 (by have := (p6 y).1; omega)⟩, p7⟩
  · rw [w4, upd_o (by omega)]; exact g7
  · rcases w10 j hj with y | ⟨k, hk, y⟩
    · exact ⟨f, hf, p / 4, by omega, y.symm⟩
    · obtain ⟨g, hg, i, hi, q⟩ := r3 k hk
      have e7 := (g4.2.2.2.1 k hk).2.2.1
      by_cases y2 : g = f
      · subst y2
        exact ⟨g, hg, i, hi, by rw [h11 i (by omega) (by omega), q, y]⟩
      · exact ⟨g, hg, i, hi, by rw [h7 g y2, q, y]⟩
  · by_cases y : g = f
    · subst y
      rcases h13 k hk q with u | u
      · exact Or.inl ⟨g, hg, k, hk, u⟩
      · exact Or.inr u
    · exact Or.inl ⟨g, hg, k, hk, by rw [h7 g y]⟩
  · have hj1 : t1 3 b ≠ 1 := fun y => hj (by
      rcases w6 with u | u
      · rw [u]; exact y
      · rw [u]
        by_cases y2 : b = rf1 f (p / 4)
        · rw [y2, upd_at]
        · rw [upd_o y2]; exact y)
    obtain ⟨u1, u2, u3⟩ := h14 b hb1 hj1
    refine ⟨u1, u2, by rw [w8, h4], fun w hw => ?_⟩
    have nb : b ≠ rf1 f (p / 4) := by
      rcases hb1 with y | ⟨y, g, hg, y2⟩
      · omega
      · subst y2; exact nix g hg y
    rw [w4, upd_o (by omega)]; exact u3 w hw
  · rw [w8, h4]; exact r6 b hb1
  · rw [w8, h4] at q
    have := h16 (r7 ⟨b, hb1, q⟩)
    rcases w6 with u | u
    · rw [u]; exact this
    · rw [u, upd_o (by omega)]; exact this
  · have c3 : cn (t2 3) 23 ≤ cn (t 3) 23 + 4 := by
      have x1 := cn_imp (f := t2 3) (g := upd (upd (upd (upd (t 3) 6 1) f 1) (rf1 f 6) 1) (rf1 f (p / 4)) 1) 23 (fun i hi q => by
        by_cases y : i = rf1 f (p / 4)
        · rw [y, upd_at]
        · have q1 : t1 3 i = 1 := by
            rcases w6 with u | u
            · rw [u] at q; exact q
            · rw [u, upd_o y] at q; exact q
          rw [upd_o y]
          by_cases y2 : i = rf1 f 6
          · rw [y2, upd_at]
          · rw [upd_o y2]
            by_cases y3 : i = f
            · rw [y3, upd_at]
            · rw [upd_o y3]
              by_cases y4 : i = 6
              · rw [y4, upd_at]
              · rw [upd_o y4]
                rcases h15 i hi q1 with u | u | u | u
                · exact u
                · exact absurd u y4
                · exact absurd u y3
                · exact absurd u y2)
      have x2 := cn_upd1 (f := upd (upd (upd (t 3) 6 1) f 1) (rf1 f 6) 1) (b := rf1 f (p / 4)) 23
      have x3 := cn_upd1 (f := upd (upd (t 3) 6 1) f 1) (b := rf1 f 6) 23
      have x4 := cn_upd1 (f := upd (t 3) 6 1) (b := f) 23
      have x5 := cn_upd1 (f := t 3) (b := 6) 23
      split at x2 <;> split at x3 <;> split at x4 <;> split at x5 <;> omega
    rw [w8, h4]
    unfold ndv at h12
    by_cases q : cn (t 3) 23 = 0
    · have q4 : cn (t 4) 23 = 0 := by
        have : ∀ m, m ≤ 23 → cn (t 4) m = 0 := by
          intro m
          induction m with
          | zero => intro _; rfl
          | succ m ih =>
            intro hm
            show cn (t 4) m + _ = 0
            rw [ih (by omega), if_neg (fun y => ?_)]
            have := cn_pos 23 (show 6 < 23 by omega) (r7 ⟨m, by omega, y⟩)
            omega
        exact this 23 (Nat.le_refl _)
      unfold szf; omega
    · rw [if_neg q] at h12
      unfold szf at *; omega
