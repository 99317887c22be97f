theorem mk_congr {x : Int32} {f g : Nat → Int32} (h : ∀ i, i < 23 → g i = f i) (hm : mk x f) : mk x g := by
  refine ⟨fun i hi => ?_, fun i hi => ?_⟩
  · rw [hm.1 i hi]
    by_cases q : i < 23
    · rw [h i q]
    · simp [q]
  · rw [h i hi]; exact hm.2 i hi
section rt
variable {c o d : Nat} {z ab e lenC len : Nat → Nat} {rfC rf : Nat → Nat → Nat}
theorem shf_hs {t : tj_S} {K m k b : Nat} (hk : k < m) (hb : b < 23) : hs (shf t K m) k b = hs t (k + K) b := by
  unfold hs
  rw [shf_6]
  dsimp only
  rw [if_pos (by omega), show 23 * k + b + 23 * K = 23 * (k + K) + b by omega]
theorem shf_gn {t : tj_S} {K m k b : Nat} (hk : k < m) (hb : b < 23) : gn (shf t K m) k b = gn t (k + K) b := by
  unfold gn
  rw [shf_7]
  dsimp only
  rw [if_pos (by omega), show 23 * k + b + 23 * K = 23 * (k + K) + b by omega]
theorem shf_wd {t : tj_S} {K m k i : Nat} (hk : k < m) (hi : i < 92) : shf t K m 8 (92 * k + i) = t 8 (92 * (k + K) + i) := by
  rw [shf_8]
  dsimp only
  rw [if_pos (by omega), show 92 * k + i + 92 * K = 92 * (k + K) + i by omega]
/-- a block with no copy and no revoke from k0 on has at home what the older transactions bring -/
theorem rcv_home {t : tj_S} {K b w : Nat} (hKc : K ≤ c) (hb : b < 23) (hw : w < 4) (hq : qH t c true K 0) : ∀ k0, k0 ≤ K → k0 ≤ c → (∀ j, k0 ≤ j → j < c → hs t j b ≠ 1 ∧ gn t j b ≠ 1) → rcv t b w k0 = t 1 (4 * b + w)
  | 0, _, _, _ => rfl
  | k0 + 1, h1, h2, h3 => by
    unfold rcv
    by_cases q : hs t k0 b = 1
    · rw [if_pos q]
      have hl : lvc t c true k0 b = true := by
        unfold lvc ltr
        rw [decide_eq_true q, Bool.true_and, Bool.not_eq_true']
        cases hx : anyB (fun j => decide (gn t j b = 1) || (true && decide (hs t j b = 1))) (k0 + 1) (c - (k0 + 1))
        · rfl
        · obtain ⟨j, a1, a2, a3⟩ := (anyB_iff _).mp hx
          have := h3 j a1 (by omega)
          simp [this.1, this.2] at a3
      exact (hq k0 b (Or.inl (by omega)) hb hl (fun k1 h4 h5 => by
        rcases h5 with h5 | h5
        · have := h3 k1 (by omega) (by omega)
          unfold lvc; simp [this.1]
        · omega) w hw).symm
    · rw [if_neg q]
      by_cases q2 : gn t k0 b = 1
      · rw [if_pos q2]
      · rw [if_neg q2]
        exact rcv_home hKc hb hw hq k0 (by omega) (by omega) (fun j h4 h5 => by
          by_cases q3 : j = k0
          · subst q3; exact ⟨q, q2⟩
          · exact h3 j (by omega) h5)
theorem rcv_shf {t : tj_S} {K b w : Nat} (hb : b < 23) (hw : w < 4) (hq : qH t c true K 0) : ∀ m, K + m ≤ c → (∀ j, K + m ≤ j → j < c → hs t j b ≠ 1 ∧ gn t j b ≠ 1) → ∀ M, m ≤ M → rcv (shf t K M) b w m = rcv t b w (K + m)
  | 0, h1, h3, M, _ => by
    show rcv (shf t K M) b w 0 = rcv t b w K
    rw [rcv_home (by omega) hb hw hq K (Nat.le_refl _) (by omega) (fun j h4 h5 => h3 j (by omega) h5)]
    show shf t K M 1 (4 * b + w) = _
    rw [shf_o (by omega) (by omega) (by omega) (by omega)]
  | m + 1, h1, h3, M, hM => by
    show (if hs (shf t K M) m b = 1 then shf t K M 8 (92 * m + 4 * b + w) else if gn (shf t K M) m b = 1 then shf t K M 1 (4 * b + w) else rcv (shf t K M) b w m) = (if hs t (K + m) b = 1 then t 8 (92 * (K + m) + 4 * b + w) else if gn t (K + m) b = 1 then t 1 (4 * b + w) else rcv t b w (K + m))
    rw [shf_hs (by omega) hb, shf_gn (by omega) hb, show 92 * m + 4 * b + w = 92 * m + (4 * b + w) by omega, shf_wd (by omega) (by omega), shf_o (a := 1) (by omega) (by omega) (by omega) (by omega), show m + K = K + m by omega, show 92 * (K + m) + (4 * b + w) = 92 * (K + m) + 4 * b + w by omega]
    by_cases q : hs t (K + m) b = 1
    · rw [if_pos q, if_pos q]
    · rw [if_neg q, if_neg q]
      by_cases q2 : gn t (K + m) b = 1
      · rw [if_pos q2, if_pos q2]
      · rw [if_neg q2, if_neg q2]
        exact rcv_shf hb hw hq m (by omega) (fun j h4 h5 => by
          by_cases q3 : j = K + m
          · subst q3; exact ⟨q, q2⟩
          · exact h3 j (by omega) h5) M (by omega)
/-- the log has lost its K oldest transactions, whose live copies stand at home -/
theorem dropped {s t s1 : tj_S} {K : Nat} (hK : 0 < K) (hKc : K ≤ c) (hR : rPR s t c o d z ab e lenC len rfC rf) (hq : qH t c true K 0) (hs1 : s1 = up2 (up2 s 4 5 (nI ((o + K) % 8))) 4 6 (nI (c - K))) {t1 : tj_S} (ht1 : t1 = shf (up2 t 0 10 (nI (c - K))) K (c - K)) : rPR s1 t1 (c - K) ((o + K) % 8) d (fun i => z (i + K)) (fun i => ab (i + K)) e lenC len rfC rf := by
  obtain ⟨⟨a1, a2, a3, a4, a5, a6, a7⟩, hU⟩ := hR
  obtain ⟨q1, q2, q3, q4, q5, q6, q7, q8, q9⟩ := a6
  have sne : ∀ a, a ≠ 4 → s1 a = s a := fun a h => by rw [hs1, up2_ne h, up2_ne h]
  have tne : ∀ a, a ≠ 0 → a ≠ 6 → a ≠ 7 → a ≠ 8 → a ≠ 9 → t1 a = t a := fun a h0 h6 h7 h8 h9 => by rw [ht1, shf_o h9 h6 h7 h8, up2_ne h0]
  have t0 : ∀ i, i ≠ 10 → t1 0 i = t 0 i := fun i h => by rw [ht1, shf_o (by omega) (by omega) (by omega) (by omega), up2_o h]
  have eh : ∀ k b, k < c - K → b < 23 → hs t1 k b = hs t (k + K) b := fun k b hk hb => by
    rw [ht1, shf_hs hk hb]; unfold hs; rw [up2_ne (by omega)]
  have eg : ∀ k b, k < c - K → b < 23 → gn t1 k b = gn t (k + K) b := fun k b hk hb => by
    rw [ht1, shf_gn hk hb]; unfold gn; rw [up2_ne (by omega)]
  have ew : ∀ k i, k < c - K → i < 92 → t1 8 (92 * k + i) = t 8 (92 * (k + K) + i) := fun k i hk hi => by
    rw [ht1, shf_wd hk hi, up2_ne (by omega)]
  have hq' : qH (up2 t 0 10 (nI (c - K))) c true K 0 := by
    intro k b hd hb hl hno w hw
    rw [lvc_congr (t := t) (up2_ne (by omega)) (up2_ne (by omega))] at hl
    rw [up2_ne (by omega), up2_ne (by omega)]
    exact hq k b hd hb hl (fun k1 h1 h2 => by rw [← hno k1 h1 h2, lvc_congr (t := t) (up2_ne (by omega)) (up2_ne (by omega))]) w hw
  have er : ∀ b w, b < 23 → w < 4 → rcv t1 b w (c - K) = rcv t b w c := fun b w hb hw => by
    rw [ht1, rcv_shf hb hw hq' (c - K) (by omega) (fun j h1 h2 => absurd h2 (by omega)) (c - K) (Nat.le_refl _), show K + (c - K) = c by omega]
    exact rcv_congr (up2_ne (by omega)) (up2_ne (by omega)) (up2_ne (by omega)) (up2_ne (by omega)) b w c
  have m1 := ab_mono q9 (i := 0) (j := K) (by omega) (by omega)
  have eab : (fun i => ab (i + K)) (c - K) = ab c := by
    show ab (c - K + K) = ab c
    rw [show c - K + K = c by omega]
  refine ⟨⟨?_, ?_, ?_, ?_, ?_, ?_, ?_⟩, ?_⟩
  · unfold rPow at *; rw [sne 1 (by omega), t0 12 (by omega), t0 14 (by omega), t0 15 (by omega)]; exact a1
  · unfold rMode at *; rw [sne 0 (by omega), t0 13 (by omega)]; exact a2
  · unfold rWrd at *; rw [sne 3 (by omega), sne 11 (by omega), tne 1 (by omega) (by omega) (by omega) (by omega) (by omega), tne 2 (by omega) (by omega) (by omega) (by omega) (by omega)]; exact a3
  · unfold rMsk at *; rw [sne 10 (by omega), tne 3 (by omega) (by omega) (by omega) (by omega) (by omega), tne 4 (by omega) (by omega) (by omega) (by omega) (by omega), t0 16 (by omega)]; exact a4
  · unfold rDir at *; rw [sne 10 (by omega), sne 12 (by omega), tne 5 (by omega) (by omega) (by omega) (by omega) (by omega), t0 5 (by omega)]; exact a5
  · refine ⟨by omega, Nat.mod_lt _ (by omega), ?_, ?_, ?_, ?_, ?_, ?_, ?_⟩
    · rw [hs1, up2_at]
    · rw [ht1, shf_o (by omega) (by omega) (by omega) (by omega), up2_at]
    · rw [hs1, up2_o (by omega), up2_at]
    · rw [hs1, up2_o (by omega), up2_o (by omega), q6, eab]
    · rw [t0 11 (by omega), q7, eab]
    · rw [eab]
      show ab c ≤ ab (0 + K) + 24
      rw [Nat.zero_add]; omega
    · intro k hk
      obtain ⟨w1, w2, w3, w4, w5, w6, w7, w8, w9⟩ := q9 (k + K) (by omega)
      have em : ((o + K) % 8 + k) % 8 = (o + (k + K)) % 8 := by omega
      have ch : ∀ n, n ≤ 23 → cn (hs t1 k) n = cn (hs t (k + K)) n := fun n hn => cn_congr n (fun i hi => eh k i hk (by omega))
      have cg : cn (gn t1 k) 23 = cn (gn t (k + K)) 23 := cn_congr 23 (fun i hi => eg k i hk hi)
      unfold rTx
      rw [em, sne 7 (by omega), sne 6 (by omega), sne 8 (by omega), sne 9 (by omega), sne 5 (by omega), ch 23 (by omega), cg]
      refine ⟨?_, w2, ?_, w4, mk_congr (fun i hi => eh k i hk hi) w5, mk_congr (fun i hi => eg k i hk hi) w6, w7, w8, fun b hb hh w hw => ?_⟩
      · show ab (k + 1 + K) = ab (k + K) + z (k + K)
        rw [show k + 1 + K = k + K + 1 by omega]; exact w1
      · rw [ht1, shf_9]
        dsimp only
        rw [if_pos hk, up2_ne (by omega)]; exact w3
      · rw [eh k b hk hb] at hh
        rw [ch b (by omega), w9 b hb hh w hw, show 92 * k + 4 * b + w = 92 * k + (4 * b + w) by omega, ew k _ hk (by omega), show 92 * (k + K) + 4 * b + w = 92 * (k + K) + (4 * b + w) by omega]
  · refine fsR_meta a7 (fun b hb j hj => ?_)
    have hb23 : b < 23 := by
      rcases hb with h | ⟨f, hf, h8, h⟩
      · omega
      · rw [← h]; exact fsF_lt (a7.1 f hf) 6 (by omega)
    rw [rci_at hj, rci_at hj, er b j hb23 hj]
  · intro hup
    rw [t0 12 (by omega)] at hup
    have hu := hU hup
    unfold rUp at *
    rw [tne 2 (by omega) (by omega) (by omega) (by omega) (by omega), tne 3 (by omega) (by omega) (by omega) (by omega) (by omega), tne 4 (by omega) (by omega) (by omega) (by omega) (by omega), t0 16 (by omega)]
    obtain ⟨r1, r2, r3, r4, r5, r6⟩ := hu
    refine ⟨r1, ?_, r3, r4, fun b hb hj => ?_, r6⟩
    · rw [r2]; exact (er 6 0 (by omega) (by omega)).symm
    · obtain ⟨p1, p2⟩ := r5 b hb hj
      have hb23 : b < 23 := by
        rcases hb with h | ⟨-, f, hf, h⟩
        · omega
        · rw [← h]; exact fsF_lt (r1.1 f hf) 6 (by omega)
      exact ⟨p1, fun w hw => by rw [er b w hb23 hw]; exact p2 w hw⟩
/-- what stays when transactions go home: the memory's cells -/
def tMem (t t1 : tj_S) : Prop := t1 2 = t 2 ∧ t1 3 = t 3 ∧ t1 4 = t 4 ∧ t1 5 = t 5 ∧ ∀ i, i ≠ 10 → i ≠ 12 → i ≠ 14 → i ≠ 15 → t1 0 i = t 0 i
theorem ck_L {K : Nat} (hK : K ≤ c) (kx km : Int32 → tj_S → Option (Int32 × tj_S)) : ∀ m i n1 n2 (s t : tj_S), i + m = K → m < n1 → m < n2 → rPR s t c o d z ab e lenC len rfC rf → qH t c true i 0 →
    ∃ (s1 t1 : tj_S), (f_Disk_checkpointOldest_L2 (nI K) kx n1 (nI i) s = some (0, s1) ∧ f_Mod_retire_L2 (nI K) km n2 (nI i) t = some (0, t1) ∧ pRel s1 t1) ∨
      (f_Disk_checkpointOldest_L2 (nI K) kx n1 (nI i) s = kx (nI K) s1 ∧ f_Mod_retire_L2 (nI K) km n2 (nI i) t = km (nI K) t1 ∧ rPR s1 t1 c o d z ab e lenC len rfC rf ∧ qH t1 c true K 0 ∧ tHP t t1 ∧ t1 0 12 = t 0 12) := by
  intro m
  induction m with
  | zero =>
    intro i n1 n2 s t h hn1 hn2 hR hq
    obtain ⟨n1, rfl⟩ : ∃ n, n1 = n + 1 := ⟨n1 - 1, by omega⟩
    obtain ⟨n2, rfl⟩ : ∃ n, n2 = n + 1 := ⟨n2 - 1, by omega⟩
    have : i = K := by omega
    subst this
    rw [f_Disk_checkpointOldest_L2, f_Mod_retire_L2, if_pos (Int32.le_refl _), if_pos (Int32.le_refl _)]
    exact ⟨s, t, Or.inr ⟨rfl, rfl, hR, hq, ⟨fun _ _ _ => rfl, fun _ _ _ _ => rfl⟩, rfl⟩⟩
  | succ m ih =>
    intro i n1 n2 s t h hn1 hn2 hR hq
    obtain ⟨n1, rfl⟩ : ∃ n, n1 = n + 1 := ⟨n1 - 1, by omega⟩
    obtain ⟨n2, rfl⟩ : ∃ n, n2 = n + 1 := ⟨n2 - 1, by omega⟩
    have hL := hR.1.2.2.2.2.2.1
    have hc := hL.1
    obtain ⟨y, y1, y2⟩ := lv_spec hL (k := i) (by omega)
    rw [f_Disk_checkpointOldest_L2, f_Mod_retire_L2, if_neg (by rw [le_n (by omega) (by omega)]; omega), if_neg (by rw [le_n (by omega) (by omega)]; omega), y1, bd_s]
    obtain ⟨s1, t1, hh⟩ := rp_L (K := i) (by omega) (fl := true) (y := y) (fun x21 s22 => some ((1 : Int32), s22)) (fun x35 s36 => some ((1 : Int32), s36)) 23 0 100 100 s t (by omega) (by omega) (by omega) hR y2 hq
    rcases hh with ⟨h1, h2, h3⟩ | ⟨h1, h2, h3, h4, h5, h6, h7⟩
    · rw [show f_Disk_writeCopiesHome (nI i) y s = some (0, s1) from h1, bd_s, if_pos rfl, show f_Mod_replay (nI i) (1 : Int32) t = some (0, t1) from h2, bd_s, if_pos rfl]
      exact ⟨s1, t1, Or.inl ⟨rfl, rfl, h3⟩⟩
    · rw [show f_Disk_writeCopiesHome (nI i) y s = some (1, s1) from h1, bd_s, if_neg h10, show f_Mod_replay (nI i) (1 : Int32) t = some (1, t1) from h2, bd_s, if_neg h10, nm_s, nm_s, nI_s]
      obtain ⟨s2, t2, hh⟩ := ih (i + 1) n1 n2 s1 t1 (by omega) (by omega) (by omega) h3 h4
      refine ⟨s2, t2, ?_⟩
      rcases hh with ⟨g1, g2, g3⟩ | ⟨g1, g2, g3, g4, g5, g6⟩
      · exact Or.inl ⟨g1, g2, g3⟩
      · exact Or.inr ⟨g1, g2, g3, g4, ⟨fun a x y => by rw [g5.1 a x y, h5.1 a x y], fun j x y z => by rw [g5.2 j x y z, h5.2 j x y z]⟩, by rw [g6, h6]⟩
theorem rt_spec {s t : tj_S} {K : Nat} (hK : 0 < K) (hKc : K ≤ c) (hR : rPR s t c o d z ab e lenC len rfC rf) : ∃ (r : Int32) (s1 t1 : tj_S), f_Disk_checkpointOldest (nI K) s = some (r, s1) ∧ f_Mod_retire (nI K) t = some (r, t1) ∧ ((r = 0 ∧ pRel s1 t1) ∨ (r = 1 ∧ rPR s1 t1 (c - K) ((o + K) % 8) d (fun i => z (i + K)) (fun i => ab (i + K)) e lenC len rfC rf ∧ t1 0 12 = t 0 12 ∧ tMem t t1)) := by
  have hc := hR.1.2.2.2.2.2.1.1
  obtain ⟨s1, t1, hh⟩ := ck_L hKc (fun x15 s16 => bd (f_Disk_dropOldest (nI K) s16) fun r19 s18 => gd (isb r19) <| some (r19, s18)) (fun x12 s13 => bd (f_Mod_spend s13) fun r16 s15 => if r16 = (0 : Int32) then some ((0 : Int32), s15) else bv (f_Mod_drop (nI K) s15) fun s18 => some ((1 : Int32), s18)) K 0 100 100 s t (by omega) (by omega) (by omega) hR (fun k b hd => by rcases hd with h | h <;> omega)
  rcases hh with ⟨h1, h2, h3⟩ | ⟨h1, h2, h3, h4, h5, h6⟩
  · exact ⟨0, s1, t1, h1, h2, Or.inl ⟨rfl, h3⟩⟩
  · rw [show f_Disk_checkpointOldest (nI K) s = _ from h1, show f_Mod_retire (nI K) t = _ from h2]
    obtain ⟨r, s2, t2, p1, p2, hp, hs2, ht2, hc2⟩ := sp_spec h3.1.1
    have hB2 := rB_pow hs2 ht2 hp h3.1
    unfold f_Disk_dropOldest
    rw [if_neg (nI_ne0 hK (by omega)), p1, p2, bd_s, bd_s]
    rcases hc2 with ⟨rfl, hc2⟩ | ⟨rfl, hc2⟩
    · rw [if_pos rfl, if_pos rfl, bd_s]
      exact ⟨0, s2, t2, rfl, rfl, Or.inl ⟨rfl, c, o, d, z, ab, e, lenC, rfC, hB2, fun q => by rw [hc2] at q; exact absurd q (by decide)⟩⟩
    · have hR2 : rPR s2 t2 c o d z ab e lenC len rfC rf := ⟨hB2, fun q => rUp_pow ht2 (h3.2 (by rw [← hc2]; exact q))⟩
      have hL2 := hB2.2.2.2.2.2.1
      have hq2 : qH t2 c true K 0 := by
        intro k b hd hb hl hno w hw
        rw [lvc_congr (ht2.1 6 (by omega)) (ht2.1 7 (by omega))] at hl
        rw [ht2.1 1 (by omega), ht2.1 8 (by omega)]
        exact h4 k b hd hb hl (fun k1 x y => by rw [← hno k1 x y, lvc_congr (ht2.1 6 (by omega)) (ht2.1 7 (by omega))]) w hw
      have h01 : ∀ i, i < 23 * c → (t2 6 i = 0 ∨ t2 6 i = 1) ∧ (t2 7 i = 0 ∨ t2 7 i = 1) := by
        intro i hi
        have x1 := rPR_hH hR2 (i / 23) (by omega) (i % 23) (Nat.mod_lt _ (by omega))
        have x2 := rPR_hG hR2 (i / 23) (by omega) (i % 23) (Nat.mod_lt _ (by omega))
        unfold hs at x1; unfold gn at x2
        rw [show 23 * (i / 23) + i % 23 = i by omega] at x1 x2
        exact ⟨x1, x2⟩
      rw [if_neg h10, if_neg h10, fo_spec hL2.2.2.2.2.1 hL2.2.2.1 hL2.2.1 hKc hc, dr_spec hK hKc hc hL2.2.2.2.1 h01, bv_s, bv_s, bd_s]
      refine ⟨1, _, _, rfl, rfl, Or.inr ⟨rfl, dropped hK hKc hR2 hq2 rfl rfl, ?_, ?_⟩⟩
      · rw [shf_o (by omega) (by omega) (by omega) (by omega), up2_o (by omega), hc2, h6]
      · refine ⟨?_, ?_, ?_, ?_, fun i x1 x2 x3 x4 => ?_⟩
        · rw [shf_o (by omega) (by omega) (by omega) (by omega), up2_ne (by omega), ht2.1 2 (by omega), h5.1 2 (by omega) (by omega)]
        · rw [shf_o (by omega) (by omega) (by omega) (by omega), up2_ne (by omega), ht2.1 3 (by omega), h5.1 3 (by omega) (by omega)]
        · rw [shf_o (by omega) (by omega) (by omega) (by omega), up2_ne (by omega), ht2.1 4 (by omega), h5.1 4 (by omega) (by omega)]
        · rw [shf_o (by omega) (by omega) (by omega) (by omega), up2_ne (by omega), ht2.1 5 (by omega), h5.1 5 (by omega) (by omega)]
        · rw [shf_o (by omega) (by omega) (by omega) (by omega), up2_o x1, ht2.2 i x2 x3 x4, h5.2 i x2 x3 x4]
end rt
theorem q_checkpoint : sim_checkpoint pRel := by
  intro a s t h
  obtain ⟨c, o, d, z, ab, e, lC, rC, hB, hU⟩ := id h
  unfold f_X_checkpoint f_Mod_checkpoint
  rcases up_cases hB.1 with ⟨e1, e2⟩ | ⟨e1, e2, e3⟩
  · exact ⟨_, _, _, if_pos e1, if_pos e2, h⟩
  · obtain ⟨len, rf, hu⟩ := hU e3
    have hL := hB.2.2.2.2.2.1
    have hc := hL.1
    have hR : rPR s t c o d z ab e lC len rC rf := ⟨hB, fun _ => hu⟩
    rw [if_neg e1, if_neg e2]
    by_cases h1 : (1 : Int32) ≤ a
    · have hpos : ¬ a < 0 := by
        rw [Int32.lt_iff_toInt_lt]; rw [Int32.le_iff_toInt_le] at h1
        have k1 : (1 : Int32).toInt = 1 := by decide
        have k0 : (0 : Int32).toInt = 0 := by decide
        omega
      obtain ⟨p, hp, rfl⟩ := nI_of hpos
      have hp1 : 1 ≤ p := by
        rw [show ((1 : Int32) ≤ nI p) = (1 ≤ p) from le_n (a := 1) (by omega) hp] at h1; exact h1
      rw [if_pos h1, if_pos h1, nm_s, hL.2.2.1, hL.2.2.2.1]
      have key : ∀ K, 0 < K → K ≤ c → ∃ (r : Int32) (s1 t1 : tj_S), (bd (f_Disk_checkpointOldest (nI K) s) fun r4 s3 => if r4 = (0 : Int32) then some ((-2 : Int32), s3) else some (((s3 1 2) - s 1 2), s3)) = some (r, s1) ∧ (bd (f_Mod_retire (nI K) t) fun r5 s4 => if r5 = (0 : Int32) then some ((-2 : Int32), s4) else some (((s4 0 15) - t 0 15), s4)) = some (r, t1) ∧ pRel s1 t1 := by
        intro K hK hKc
        obtain ⟨r, s1, t1, w1, w2, w3⟩ := rt_spec hK hKc hR
        rw [w1, w2, bd_s, bd_s]
        rcases w3 with ⟨rfl, w3⟩ | ⟨rfl, w3, -, -⟩
        · rw [if_pos rfl, if_pos rfl]; exact ⟨_, _, _, rfl, rfl, w3⟩
        · rw [if_neg h10, if_neg h10, w3.1.1.2.2.1, hB.1.2.2.1]; exact ⟨_, _, _, rfl, rfl, rPR_p w3⟩
      by_cases q : c ≤ p
      · have e4 : (if nI c < nI p then nI c else nI p) = nI c := by
          by_cases q2 : c < p
          · rw [if_pos (by rw [lt_n (by omega) hp]; exact q2)]
          · rw [if_neg (by rw [lt_n (by omega) hp]; exact q2), show p = c by omega]
        rw [e4, if_pos (by rw [le_n (by omega) hp]; exact q), nm_s, nm_s]
        by_cases q0 : c = 0
        · have e5 : f_Disk_checkpointOldest (nI c) s = some (1, s) := by
            subst q0
            unfold f_Disk_checkpointOldest
            rw [f_Disk_checkpointOldest_L2, if_pos (by decide)]; rfl
          rw [e5, bd_s, if_neg h10, if_pos (by rw [q0]; decide), Int32.sub_self, Int32.sub_self]
          exact ⟨_, _, _, rfl, rfl, h⟩
        · rw [if_neg (nI_nle (by omega) (by omega))]
          exact key c (by omega) (Nat.le_refl _)
      · rw [if_neg (show ¬ nI c < nI p by rw [lt_n (by omega) hp]; omega), if_neg (by rw [le_n (by omega) hp]; exact q), nm_s, if_neg (nI_nle (by omega) hp)]
        exact key p (by omega) (by omega)
    · rw [if_neg h1, if_neg h1]; exact ⟨_, _, _, rfl, rfl, h⟩
