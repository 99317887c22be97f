theorem fsR_meta {w w1 : Nat → Int32} {len : Nat → Nat} {rf : Nat → Nat → Nat} (h : fsR w len rf) (hm : ∀ b, (b < 7 ∨ ∃ f, f < 6 ∧ 8 < len f ∧ rf f 6 = b) → ∀ j, j < 4 → w1 (4 * b + j) = w (4 * b + j)) : fsR w1 len rf := by
  obtain ⟨h1, h2, h3⟩ := h
  refine ⟨fun f hf => ?_, h2, ?_⟩
  · obtain ⟨g0, g1, g2, g3, g4, g5, g6, g7⟩ := h1 f hf
    refine ⟨g0, ?_, ?_, ?_, ?_, g5, fun q => ?_, g7⟩
    · have := hm f (Or.inl (by omega)) 0 (by omega); rw [Nat.add_zero] at this; rw [this]; exact g1
    · rw [hm f (Or.inl (by omega)) 1 (by omega)]; exact g2
    · rw [hm f (Or.inl (by omega)) 2 (by omega)]; exact g3
    · rw [hm f (Or.inl (by omega)) 3 (by omega)]; exact g4
    · obtain ⟨k1, k2, k3⟩ := g6 q
      exact ⟨k1, k2, fun i hi => by rw [hm (rf f 6) (Or.inr ⟨f, hf, q, rfl⟩) i hi]; exact k3 i hi⟩
  · have := hm 6 (Or.inl (by omega)) 0 (by omega)
    rw [show w1 24 = w 24 from this]; exact h3
def sHm (s s1 : tj_S) (b : Nat) (g : Nat → Int32) : Prop := (∀ a, a ≠ 3 → s1 a = s a) ∧ ∀ i, s1 3 i = if 4 * b ≤ i ∧ i < 4 * b + 4 then g (i - 4 * b) else s 3 i
def tHm (t t1 : tj_S) (b : Nat) (g : Nat → Int32) : Prop := (∀ a, a ≠ 1 → t1 a = t a) ∧ ∀ i, t1 1 i = if 4 * b ≤ i ∧ i < 4 * b + 4 then g (i - 4 * b) else t 1 i
theorem rci_at {t : tj_S} {c b j : Nat} (h : j < 4) : rci t c (4 * b + j) = rcv t b j c := by
  unfold rci
  rw [show (4 * b + j) / 4 = b by omega, show (4 * b + j) % 4 = j by omega]
theorem rcv_hm {t t1 : tj_S} {b : Nat} {g : Nat → Int32} (h : tHm t t1 b g) {b1 w : Nat} (hb : b1 ≠ b) (hw : w < 4) : ∀ k, rcv t1 b1 w k = rcv t b1 w k
  | 0 => by unfold rcv; rw [h.2, if_neg (by omega)]
  | k + 1 => by
    unfold rcv hs gn
    rw [h.1 6 (by omega), h.1 7 (by omega), h.1 8 (by omega), h.2, if_neg (show ¬ (4 * b ≤ 4 * b1 + w ∧ 4 * b1 + w < 4 * b + 4) by omega), rcv_hm h hb hw k]
theorem rWrd_hm {s t s1 t1 : tj_S} {b : Nat} {g : Nat → Int32} (hs : sHm s s1 b g) (ht : tHm t t1 b g) (h : rWrd s t) : rWrd s1 t1 := by
  refine ⟨fun i hi => ?_, fun i hi => ?_⟩
  · rw [hs.2, ht.2, h.1 i hi]
  · rw [hs.1 11 (by omega), ht.1 2 (by omega)]; exact h.2 i hi
theorem rLog_hm {s t s1 t1 : tj_S} {b : Nat} {g : Nat → Int32} (hs : sHm s s1 b g) (ht : tHm t t1 b g) {c o : Nat} {z ab : Nat → Nat} (h : rLog s t c o z ab) : rLog s1 t1 c o z ab := by
  unfold rLog at *
  rw [hs.1 4 (by omega), ht.1 0 (by omega)]
  obtain ⟨q1, q2, q3, q4, q5, q6, q7, q8, q9⟩ := h
  exact ⟨q1, q2, q3, q4, q5, q6, q7, q8, fun k hk => rTx_congr (hs.1 5 (by omega)) (hs.1 6 (by omega)) (hs.1 7 (by omega)) (hs.1 8 (by omega)) (hs.1 9 (by omega)) (ht.1 6 (by omega)) (ht.1 7 (by omega)) (ht.1 8 (by omega)) (ht.1 9 (by omega)) (q9 k hk)⟩
/-- a home write, given that what a mount would bring back stays well formed -/
theorem rB_hm {s t s1 t1 : tj_S} {b : Nat} {g : Nat → Int32} (hs : sHm s s1 b g) (ht : tHm t t1 b g) {c o d : Nat} {z ab e lenC : Nat → Nat} {rfC : Nat → Nat → Nat} (h : rB s t c o d z ab e lenC rfC) (hf : fsR (rci t1 c) lenC rfC) : rB s1 t1 c o d z ab e lenC rfC := by
  obtain ⟨h1, h2, h3, h4, h5, h6, _⟩ := h
  refine ⟨?_, ?_, rWrd_hm hs ht h3, ?_, ?_, rLog_hm hs ht h6, hf⟩
  · unfold rPow at *; rw [hs.1 1 (by omega), ht.1 0 (by omega)]; exact h1
  · unfold rMode at *; rw [hs.1 0 (by omega), ht.1 0 (by omega)]; exact h2
  · unfold rMsk at *; rw [hs.1 10 (by omega), ht.1 0 (by omega), ht.1 3 (by omega), ht.1 4 (by omega)]; exact h4
  · unfold rDir at *; rw [hs.1 10 (by omega), hs.1 12 (by omega), ht.1 0 (by omega), ht.1 5 (by omega)]; exact h5
/-- a home write of a data block of now -/
theorem rUp_hm {t t1 : tj_S} {b : Nat} {g : Nat → Int32} (ht : tHm t t1 b g) {c d : Nat} {e len : Nat → Nat} {rf rfC : Nat → Nat → Nat} (h : rUp t c d e len rf rfC) (hb7 : 7 ≤ b) (hbi : ∀ f, f < 6 → rf f 6 ≠ b) : rUp t1 c d e len rf rfC := by
  unfold rUp at *
  rw [ht.1 2 (by omega), ht.1 0 (by omega), ht.1 3 (by omega), ht.1 4 (by omega)]
  obtain ⟨q1, q2, q3, q4, q5, q6⟩ := h
  refine ⟨q1, ?_, q3, q4, fun b1 hb1 hj => ?_, q6⟩
  · rw [q2]
    show rcv t 6 0 c = rcv t1 6 0 c
    rw [rcv_hm ht (by omega) (by omega)]
  · obtain ⟨r1, r2⟩ := q5 b1 hb1 hj
    refine ⟨r1, fun w hw => ?_⟩
    rw [rcv_hm ht (fun e1 => ?_) hw]
    · exact r2 w hw
    · subst e1
      rcases hb1 with h | ⟨-, f, hf, h⟩
      · omega
      · exact hbi f hf h
theorem rec_hm {t t1 : tj_S} {b : Nat} {g : Nat → Int32} (ht : tHm t t1 b g) {c : Nat} {lenC : Nat → Nat} {rfC : Nat → Nat → Nat} (h : fsR (rci t c) lenC rfC) (hb7 : 7 ≤ b) (hbi : ∀ f, f < 6 → rfC f 6 ≠ b) : fsR (rci t1 c) lenC rfC := by
  refine fsR_meta h (fun b1 hb1 j hj => ?_)
  rw [rci_at hj, rci_at hj, rcv_hm ht (fun e1 => ?_) hj]
  subst e1
  rcases hb1 with h | ⟨f, hf, -, h⟩
  · omega
  · exact hbi f hf h
theorem bw_L (b : Nat) (hb : b < 23) (y : Int32) (k : Int32 → tj_S → Option (Int32 × tj_S)) : ∀ m w n (t : tj_S), w + m = 4 → f_Mod_bring_L18 y (nI b) k (n + m + 1) (nI w) t = k (nI 4) (st2 t 1 (fun i => if 4 * b + w ≤ i ∧ i < 4 * b + 4 then t 2 i else t 1 i)) := by
  intro m
  induction m with
  | zero =>
    intro w n t h
    have : w = 4 := by omega
    subst this
    rw [f_Mod_bring_L18, if_pos (by decide)]
    congr 1
    funext a
    by_cases q : a = 1
    · subst q; rw [st2_eq]; funext i; rw [if_neg (by omega)]
    · rw [st2_ne q]
  | succ m ih =>
    intro w n t h
    rw [show n + (m + 1) + 1 = (n + m + 1) + 1 by omega, f_Mod_bring_L18, if_neg (by rw [show ((4 : Int32) ≤ nI w) = (4 ≤ w) from le_n (a := 4) (by omega) (by omega)]; omega), adr2, gd_in (by omega) (by omega), gd_in (by omega) (by omega), nm_s, nm_s, cl_n (by omega), nI_s]
    rw [ih (w + 1) n _ (by omega)]
    congr 1
    funext a
    by_cases q : a = 1
    · subst q; rw [st2_eq, st2_eq]; funext i
      rw [up2_ne (show 2 ≠ 1 by omega)]
      by_cases q1 : i = 4 * b + w
      · subst q1; rw [if_neg (by omega), if_pos (by omega), up2_at]
      · by_cases q2 : 4 * b + w ≤ i ∧ i < 4 * b + 4
        · rw [if_pos (by omega), if_pos q2]
        · rw [if_neg (by omega), if_neg q2, up2_o q1]
    · rw [st2_ne q, st2_ne q, up2_ne q]
theorem ib_t {b : Nat} (hb : b < 23) (s : tj_S) : f_X_isBlock (nI b) s = some (1, s) := by
  unfold f_X_isBlock
  rw [if_neg (nI_pos (by omega)), if_neg (by rw [show ((23 : Int32) ≤ nI b) = (23 ≤ b) from le_n (a := 23) (by omega) (by omega)]; omega)]
theorem cp_ok {a b n n0 n1 : Nat} (h1 : a + n ≤ n0) (h2 : b + n ≤ n1) (h3 : n0 < 2 ^ 30) (h4 : n1 < 2 ^ 30) : cpb (nI a) (nI b) (nI n) n0 n1 = true := by
  unfold cpb
  rw [cl_n (by omega), cl_n (by omega), cl_n (by omega)]
  simp only [nI_pos (show a < 2 ^ 31 by omega), nI_pos (show b < 2 ^ 31 by omega), nI_pos (show n < 2 ^ 31 by omega)]
  simp
  omega
/-- one dirty block goes home: the class's writeDirtyHome, the reference's bring -/
theorem br_spec {s t : tj_S} {c o d : Nat} {z ab e lenC len : Nat → Nat} {rfC rf : Nat → Nat → Nat} (hB : rB s t c o d z ab e lenC rfC) (h1 : t 0 12 = 1) (hU : rUp t c d e len rf rfC) {k : Nat} (hk : k < d) : ∃ (r : Int32) (s1 t1 : tj_S), f_X_writeDirtyHome (nI (e k)) s = some (r, s1) ∧ f_Mod_bring (nI k) t = some (r, t1) ∧ ((r = 0 ∧ pRel s1 t1) ∨ (r = 1 ∧ ∃ (d1 : Nat) (e1 : Nat → Nat), d1 + 1 = d ∧ rB s1 t1 c o d1 z ab e1 lenC rfC ∧ rUp t1 c d1 e1 len rf rfC ∧ t1 0 12 = 1 ∧ t1 0 13 = t 0 13 ∧ t1 2 = t 2 ∧ t1 0 16 = t 0 16)) := by
  obtain ⟨r, s1, t1, p1, p2, hp, hs, ht, hc⟩ := sp_spec hB.1
  have hB1 := rB_pow hs ht hp hB
  unfold f_X_writeDirtyHome f_Disk_writeHome_11 f_Mod_bring
  rw [p1, p2, bd_s, bd_s]
  rcases hc with ⟨rfl, hc⟩ | ⟨rfl, hc⟩
  · rw [if_pos rfl, if_pos rfl, bd_s, if_pos rfl]
    exact ⟨_, _, _, rfl, rfl, Or.inl ⟨rfl, c, o, d, z, ab, e, lenC, rfC, hB1, fun q => by rw [hc] at q; exact absurd q (by decide)⟩⟩
  · have hU1 := rUp_pow ht hU
    rw [h1] at hc
    have hD := hB1.2.2.2.2.1
    obtain ⟨g1, g2, g3, g4⟩ := hD.2.2.2.1 k hk
    obtain ⟨f, hf, i, hi, hfi⟩ := hU.2.2.1 k hk
    have hb : e k < 23 := g4
    rw [if_neg h10, if_neg h10, ib_t hb, bd_s, if_neg h10, show (nI (e k) * 4 : Int32) = nI (4 * e k) from by rw [Nat.mul_comm]; exact pk_mul (e k) 4]
    rw [if_neg (nI_pos (by omega)), if_neg (by rw [show (nI (4 * e k) + 4 : Int32) = nI (4 * e k + 4) from nI_add _ 4, show ((92 : Int32) < nI (4 * e k + 4)) = (92 < 4 * e k + 4) from lt_n (a := 92) (by omega) (by omega)]; omega)]
    have hcp : cpb (nI (4 * e k)) (nI (4 * e k)) 4 92 92 = true := cp_ok (a := 4 * e k) (b := 4 * e k) (n := 4) (n0 := 92) (n1 := 92) (by omega) (by omega) (by omega) (by omega)
    rw [gd_t hcp, nm_s, bd_s, if_neg h10, cl_n (by omega), show (4 : Int32).toNatClampNeg = 4 from rfl]
    rw [gd_in (by have := hD.1; omega) (by omega), cl_n (by have := hD.1; omega), g2, nm_s]
    have bl := bw_L (e k) hb (nI k) (fun x17 s18 => bv (f_Mod_clean (nI (e k)) s18) fun s20 => some ((1 : Int32), s20)) 4 0 95 t1 (by omega)
    rw [show (0 : Int32) = nI 0 from rfl, show (100 : Nat) = 95 + 4 + 1 from rfl, bl]
    generalize hs2 : st2 s1 3 (va_cpy (s1 11) (s1 3) (4 * e k) (4 * e k) 4) = s2
    generalize ht2 : st2 t1 1 (fun i => if 4 * e k + 0 ≤ i ∧ i < 4 * e k + 4 then t1 2 i else t1 1 i) = t2
    have hW := hB1.2.2.1
    have hsm : sHm s1 s2 (e k) (fun i => s1 11 (4 * e k + i)) := by
      subst hs2
      refine ⟨fun a ha => st2_ne ha, fun i => ?_⟩
      rw [st2_eq]; rfl
    have htm : tHm t1 t2 (e k) (fun i => s1 11 (4 * e k + i)) := by
      subst ht2
      refine ⟨fun a ha => st2_ne ha, fun i => ?_⟩
      rw [st2_eq]
      by_cases q : 4 * e k ≤ i ∧ i < 4 * e k + 4
      · rw [if_pos (by omega), if_pos q]
        show t1 2 i = s1 11 (4 * e k + (i - 4 * e k))
        rw [show 4 * e k + (i - 4 * e k) = i by omega, hW.2 i (by omega)]
      · rw [if_neg (by omega), if_neg q]
    have hC6 : ∀ f1, f1 < 6 → rfC f1 6 ≠ e k := fun f1 hf1 q => hU.2.2.2.1 f1 f i hf1 hf hi (by omega) (by rw [hfi, q])
    have hR6 : ∀ f1, f1 < 6 → rf f1 6 ≠ e k := fun f1 hf1 q => by
      have := hU.1.2.1 f f1 i 6 hf hf1 (by omega) (by omega) (by omega) (by rw [hfi, q])
      omega
    have hB2 := rB_hm hsm htm hB1 (rec_hm htm hB1.2.2.2.2.2.2 g3 hC6)
    have hU2 := rUp_hm htm hU1 g3 hR6
    obtain ⟨d1, e1, s3, t3, m1, m2, m3, m4, m5, m6, m7⟩ := mc_spec (b := e k) hB2.2.2.2.2.1 (by omega)
    rw [m1, m2, bv_s, bv_s]
    refine ⟨_, _, _, rfl, rfl, Or.inr ⟨rfl, d1, e1, m7 ⟨k, hk, rfl⟩, ?_, ?_, ?_, ?_, ?_, ?_⟩⟩
    · obtain ⟨a1, a2, a3, a4, a5, a6, a7⟩ := hB2
      obtain ⟨x1, x2⟩ := m4
      obtain ⟨y1, y2⟩ := m5
      refine ⟨?_, ?_, ?_, ?_, m3, ?_, ?_⟩
      · unfold rPow at *; rw [x1 1 (by omega) (by omega), y2 12 (by omega), y2 14 (by omega), y2 15 (by omega)]; exact a1
      · unfold rMode at *; rw [x1 0 (by omega) (by omega), y2 13 (by omega)]; exact a2
      · unfold rWrd at *; rw [x1 3 (by omega) (by omega), x1 11 (by omega) (by omega), y1 1 (by omega) (by omega), y1 2 (by omega) (by omega)]; exact a3
      · unfold rMsk at *; rw [x2 3 (by omega), x2 4 (by omega), x2 5 (by omega), y1 3 (by omega) (by omega), y1 4 (by omega) (by omega), y2 16 (by omega)]; exact a4
      · unfold rLog at *
        rw [x1 4 (by omega) (by omega), y2 10 (by omega), y2 11 (by omega)]
        obtain ⟨q1, q2, q3, q4, q5, q6, q7, q8, q9⟩ := a6
        exact ⟨q1, q2, q3, q4, q5, q6, q7, q8, fun k hk => rTx_congr (x1 5 (by omega) (by omega)) (x1 6 (by omega) (by omega)) (x1 7 (by omega) (by omega)) (x1 8 (by omega) (by omega)) (x1 9 (by omega) (by omega)) (y1 6 (by omega) (by omega)) (y1 7 (by omega) (by omega)) (y1 8 (by omega) (by omega)) (y1 9 (by omega) (by omega)) (q9 k hk)⟩
      · rw [rci_congr (y1 1 (by omega) (by omega)) (y1 6 (by omega) (by omega)) (y1 7 (by omega) (by omega)) (y1 8 (by omega) (by omega))]; exact a7
    · obtain ⟨y1, y2⟩ := m5
      unfold rUp at *
      rw [y1 2 (by omega) (by omega), y1 3 (by omega) (by omega), y1 4 (by omega) (by omega), y2 16 (by omega), rci_congr (y1 1 (by omega) (by omega)) (y1 6 (by omega) (by omega)) (y1 7 (by omega) (by omega)) (y1 8 (by omega) (by omega))]
      obtain ⟨q1, q2, q3, q4, q5, q6⟩ := hU2
      refine ⟨q1, q2, fun i hi => ?_, q4, fun b1 hb1 hj => ?_, q6⟩
      · obtain ⟨j, hj, ej, -⟩ := m6 i hi
        rw [ej]; exact q3 j hj
      · obtain ⟨r1, r2⟩ := q5 b1 hb1 hj
        exact ⟨r1, fun w hw => by rw [rcv_congr (y1 1 (by omega) (by omega)) (y1 6 (by omega) (by omega)) (y1 7 (by omega) (by omega)) (y1 8 (by omega) (by omega))]; exact r2 w hw⟩
    · rw [m5.2 12 (by omega), htm.1 0 (by omega), hc]
    · rw [m5.2 13 (by omega), htm.1 0 (by omega), ht.2 13 (by omega) (by omega) (by omega)]
    · rw [m5.1 2 (by omega) (by omega), htm.1 2 (by omega), ht.1 2 (by omega)]
    · rw [m5.2 16 (by omega), htm.1 0 (by omega), ht.2 16 (by omega) (by omega) (by omega)]
