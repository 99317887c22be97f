theorem st_spec (s : tj_S) : ∃ s1, f_Mem_startTransaction s = some s1 ∧ (∀ a, a ≠ 10 → s1 a = s a) ∧ s1 10 3 = 0 ∧ s1 10 4 = 0 ∧ s1 10 5 = s 11 24 ∧ ∀ i, i ≠ 3 → i ≠ 4 → i ≠ 5 → s1 10 i = s 10 i := by
  unfold f_Mem_startTransaction f_Mem_blocksInUse
  rw [nm_s, nm_s, gd_t (show inb (24 : Int32) 92 = true from by decide +kernel), bd_s, nm_s, show (24 : Int32).toNatClampNeg = 24 from by decide +kernel]
  refine ⟨_, rfl, fun a ha => ?_, ?_, ?_, ?_, fun i h3 h4 h5 => ?_⟩
  · rw [up2_ne ha, up2_ne ha, up2_ne ha]
  · rw [up2_o (by omega), up2_o (by omega), up2_at]
  · rw [up2_o (by omega), up2_at]
  · rw [up2_at, up2_ne (by omega), up2_ne (by omega)]
  · rw [up2_o h5, up2_o h4, up2_o h3]
theorem mk_0 {f : Nat → Int32} (hf : ∀ i, i < 23 → f i = 0) : mk 0 f := ⟨fun i hi => by
    rw [b_0]
    by_cases q : i < 23
    · rw [hf i q]; simp
    · simp [q], fun i hi => Or.inl (hf i hi)⟩
theorem cn_0 {f : Nat → Int32} (hf : ∀ i, i < 23 → f i = 0) : cn f 23 = 0 := by rw [cn_congr (g := fun _ => 0) 23 hf]; decide
section cm
variable {c o d : Nat} {z ab e lenC len : Nat → Nat} {rfC rf : Nat → Nat → Nat}
theorem ab_3 {s t : tj_S} (hT : ∀ k, k < c → rTx s t o z ab k) : ∀ i, i ≤ c → ab 0 + 3 * i ≤ ab i
  | 0, _ => by omega
  | i + 1, h => by
    have := ab_3 hT i (by omega)
    obtain ⟨q1, -, -, -, -, -, q7, q8, -⟩ := hT i (by omega)
    unfold szf at q7
    omega
theorem committed {s t : tj_S} (hR : rPR s t c o d z ab e lenC len rfC rf) (hup : t 0 12 = 1) {n : Nat} (hn : n = szf (cn (t 3) 23) (cn (t 4) 23)) (hpos : 0 < cn (t 3) 23) (hroom : ab c + n ≤ ab 0 + 24) : ∃ s1 s2 t1, f_Log_append_10 (nI n) s = some s1 ∧ f_Mem_startTransaction s1 = some s2 ∧ f_Mod_enter (nI n) t = some t1 ∧ rPR s2 t1 (c + 1) o d (fun i => if i = c then n else z i) (fun i => if i ≤ c then ab i else ab c + n) e len len rf rf ∧ t1 0 12 = 1 ∧ t1 2 = t 2 ∧ (∀ i, i < 23 → t1 3 i = 0 ∧ t1 4 i = 0) ∧ t1 0 16 = t 2 24 ∧ t1 0 13 = t 0 13 := by
  obtain ⟨ab1, hab1⟩ : ∃ f : Nat → Nat, f = (fun i => if i ≤ c then ab i else ab c + n) := ⟨_, rfl⟩
  obtain ⟨z1, hz1⟩ : ∃ f : Nat → Nat, f = (fun i => if i = c then n else z i) := ⟨_, rfl⟩
  rw [← hab1, ← hz1]
  have A1 : ab1 (c + 1) = ab c + n := by rw [hab1]; exact if_neg (by omega)
  have A2 : ∀ i, i ≤ c → ab1 i = ab i := fun i hi => by rw [hab1]; exact if_pos hi
  have Z1 : z1 c = n := by rw [hz1]; exact if_pos rfl
  have Z2 : ∀ i, i ≠ c → z1 i = z i := fun i hi => by rw [hz1]; exact if_neg hi
  obtain ⟨⟨a1, a2, a3, a4, a5, a6, a7⟩, hU⟩ := hR
  obtain ⟨r1, r2, r3, r4, r5, r6, r7, r8⟩ := hU hup
  obtain ⟨q1, q2, q3, q4, q5, q6, q7, q8, q9⟩ := a6
  have hc7 : c < 8 := by
    have := ab_3 q9 c (Nat.le_refl _)
    unfold szf at hn
    omega
  have hcn := cn_le (t 3) 23
  have hsz : cn (t 3) 23 + cn (t 3) 23 / 4 + 1 ≤ n ∧ n ≤ 24 := by
    have m := ab_mono q9 (i := 0) (j := c) (by omega) (by omega)
    unfold szf at hn; omega
  have ab0 : ∀ k, k ≤ c → ab 0 ≤ ab k := fun k hk => ab_mono q9 (i := 0) (j := k) (by omega) hk
  obtain ⟨s1, w1, w2, w3, w4, w5, w6, w7, w8, w9, w10, w11⟩ := ap_spec (s := s) (o := o) (c := c) (n := n) (A := ab c) (f := t 3) q2 hc7 hsz.2 (by omega) q3 q5 q6 a4.1
  obtain ⟨s2, x1, x2, x3, x4, x5, x6⟩ := st_spec s1
  obtain ⟨t1, y1, y2, y3, y6, y7, y8, y9, y10, y11, y12, y13⟩ := en_spec (t := t) (c := c) (n := n) (P := ab c % 24) hc7 hsz.2 (Nat.mod_lt _ (by omega)) q4 q7 (fun i hi => ⟨a4.1.2 i hi, a4.2.1.2 i hi⟩)
  have so : ∀ a, a ≠ 4 → a ≠ 5 → a ≠ 6 → a ≠ 7 → a ≠ 8 → a ≠ 9 → a ≠ 10 → s2 a = s a := fun a h4 h5 h6 h7 h8 h9 h10 => by rw [x2 a h10, w2 a h4 h5 h6 h7 h8 h9]
  have t2 : t1 2 = t 2 := y2 2 (by omega) (by omega) (by omega) (by omega) (by omega) (by omega) (by omega)
  have t1' : t1 1 = t 1 := y2 1 (by omega) (by omega) (by omega) (by omega) (by omega) (by omega) (by omega)
  have eh : ∀ k b, k < c → b < 23 → hs t1 k b = hs t k b := fun k b hk hb => by unfold hs; rw [y6, if_neg (by omega)]
  have eg : ∀ k b, k < c → b < 23 → gn t1 k b = gn t k b := fun k b hk hb => by unfold gn; rw [y7, if_neg (by omega)]
  have ehc : ∀ b, b < 23 → hs t1 c b = t 3 b := fun b hb => by unfold hs; rw [y6, if_pos (by omega), show 23 * c + b - 23 * c = b by omega]
  have egc : ∀ b, b < 23 → gn t1 c b = t 4 b := fun b hb => by unfold gn; rw [y7, if_pos (by omega), show 23 * c + b - 23 * c = b by omega]
  have er : ∀ b w, b < 23 → w < 4 → ∀ k, k ≤ c → rcv t1 b w k = rcv t b w k := by
    intro b w hb hw k
    induction k with
    | zero => intro _; show t1 1 _ = t 1 _; rw [t1']
    | succ k ih =>
      intro hk
      have e8 : t1 8 (92 * k + 4 * b + w) = t 8 (92 * k + 4 * b + w) := by rw [y8, if_neg (by omega)]
      unfold rcv
      rw [eh k b (by omega) hb, eg k b (by omega) hb, t1', e8, ih (by omega)]
  -- what a mount would bring back of a metadata block is what stands in memory
  have ec : ∀ b, (b < 7 ∨ (b ≠ 0 ∧ ∃ f, f < 6 ∧ rf f 6 = b)) → ∀ w, w < 4 → rcv t1 b w (c + 1) = t 2 (4 * b + w) := by
    intro b hb w hw
    have hb23 : b < 23 := by
      rcases hb with h | ⟨-, f, hf, h⟩
      · omega
      · rw [← h]; exact fsF_lt (r1.1 f hf) 6 (by omega)
    show (if hs t1 c b = 1 then t1 8 (92 * c + 4 * b + w) else if gn t1 c b = 1 then t1 1 (4 * b + w) else rcv t1 b w c) = _
    rw [ehc b hb23, egc b hb23]
    by_cases q : t 3 b = 1
    · rw [if_pos q, y8, if_pos (by omega), show 92 * c + 4 * b + w - 92 * c = 4 * b + w by omega]
    · obtain ⟨p1, p2⟩ := r5 b hb q
      rw [if_neg q, if_neg p1, er b w hb23 hw c (Nat.le_refl _), p2 w hw]
  have hfs : fsR (rci t1 (c + 1)) len rf := fsR_meta r1 (fun b hb j hj => by
    rw [rci_at hj]
    refine ec b ?_ j hj
    rcases hb with h | ⟨f, hf, h8, h⟩
    · exact Or.inl h
    · have := ((r1.1 f hf).2.2.2.2.2.2.1 h8).1
      exact Or.inr ⟨by omega, f, hf, h⟩)
  have slots : ∀ k, k < c → (o + k) % 8 ≠ (o + c) % 8 := fun k hk => by omega
  refine ⟨s1, s2, t1, w1, x1, y1, ⟨⟨?_, ?_, ?_, ?_, ?_, ?_, hfs⟩, fun _ => ?_⟩, by rw [y13 12 (by omega) (by omega) (by omega)]; exact hup, t2, y3, y12, y13 13 (by omega) (by omega) (by omega)⟩
  · unfold rPow at *; rw [so 1 (by omega) (by omega) (by omega) (by omega) (by omega) (by omega) (by omega), y13 12 (by omega) (by omega) (by omega), y13 14 (by omega) (by omega) (by omega), y13 15 (by omega) (by omega) (by omega)]; exact a1
  · unfold rMode at *; rw [so 0 (by omega) (by omega) (by omega) (by omega) (by omega) (by omega) (by omega), y13 13 (by omega) (by omega) (by omega)]; exact a2
  · unfold rWrd at *; rw [so 3 (by omega) (by omega) (by omega) (by omega) (by omega) (by omega) (by omega), so 11 (by omega) (by omega) (by omega) (by omega) (by omega) (by omega) (by omega), t1', t2]; exact a3
  · refine ⟨?_, ?_, ?_⟩
    · rw [x3]; exact mk_0 (fun i hi => (y3 i hi).1)
    · rw [x4]; exact mk_0 (fun i hi => (y3 i hi).2)
    · rw [x5, w2 11 (by omega) (by omega) (by omega) (by omega) (by omega) (by omega), y12]; exact a3.2 24 (by omega)
  · obtain ⟨b1, b2, b3, b4, b5⟩ := a5
    have e5 : t1 5 = t 5 := y2 5 (by omega) (by omega) (by omega) (by omega) (by omega) (by omega) (by omega)
    refine ⟨b1, ?_, ?_, fun i hi => ?_, b5⟩
    · rw [x6 2 (by omega) (by omega) (by omega), w2 10 (by omega) (by omega) (by omega) (by omega) (by omega) (by omega)]; exact b2
    · rw [y13 5 (by omega) (by omega) (by omega)]; exact b3
    · rw [so 12 (by omega) (by omega) (by omega) (by omega) (by omega) (by omega) (by omega), e5]; exact b4 i hi
  · refine ⟨by omega, q2, ?_, y10, ?_, ?_, ?_, ?_, ?_⟩
    · rw [x2 4 (by omega)]; exact w3
    · rw [x2 4 (by omega)]; exact w4
    · rw [x2 4 (by omega), w5, A1, show (ab c % 24 + n) % 24 = (ab c + n) % 24 by omega]
    · rw [y11, A1, show (ab c % 24 + n) % 24 = (ab c + n) % 24 by omega]
    · rw [A1, A2 0 (by omega)]; exact hroom
    · intro k hk
      by_cases qk : k = c
      · subst qk
        have c3 : ∀ b, b ≤ 23 → cn (hs t1 k) b = cn (t 3) b := fun b hb => cn_congr b (fun i hi => ehc i (by omega))
        have c4 : cn (gn t1 k) 23 = cn (t 4) 23 := cn_congr 23 (fun i hi => egc i hi)
        unfold rTx
        rw [c3 23 (by omega), c4, x2 7 (by omega), x2 6 (by omega), x2 8 (by omega), x2 9 (by omega), x2 5 (by omega), w7, if_pos rfl, w6, if_pos rfl, w8, if_pos rfl, w9, if_pos rfl, y9, if_pos rfl, Z1, A1, A2 k (Nat.le_refl _)]
        refine ⟨rfl, rfl, rfl, rfl, mk_congr (fun i hi => ehc i hi) a4.1, mk_congr (fun i hi => egc i hi) a4.2.1, hn, hpos, fun b hb hh w hw => ?_⟩
        rw [ehc b hb] at hh
        rw [c3 b (by omega), y8, if_pos (by omega), show 92 * k + 4 * b + w - 92 * k = 4 * b + w by omega, ← a3.2 (4 * b + w) (by omega)]
        exact w10 b hb hh w hw
      · have hkc : k < c := by omega
        obtain ⟨v1, v2, v3, v4, v5, v6, v7, v8, v9⟩ := q9 k hkc
        have c3 : ∀ b, b ≤ 23 → cn (hs t1 k) b = cn (hs t k) b := fun b hb => cn_congr b (fun i hi => eh k i hkc (by omega))
        have c4 : cn (gn t1 k) 23 = cn (gn t k) 23 := cn_congr 23 (fun i hi => eg k i hkc hi)
        have hsl := slots k hkc
        unfold rTx
        rw [c3 23 (by omega), c4, x2 7 (by omega), x2 6 (by omega), x2 8 (by omega), x2 9 (by omega), x2 5 (by omega), w7, if_neg hsl, w6, if_neg hsl, w8, if_neg hsl, w9, if_neg hsl, y9, if_neg qk, Z2 k qk, A2 (k + 1) (by omega), A2 k (by omega)]
        refine ⟨v1, v2, v3, v4, mk_congr (fun i hi => eh k i hkc hi) v5, mk_congr (fun i hi => eg k i hkc hi) v6, v7, v8, fun b hb hh w hw => ?_⟩
        rw [eh k b hkc hb] at hh
        rw [c3 b (by omega), y8, if_neg (by omega), ← v9 b hb hh w hw]
        refine w11 _ (fun b2 g1 g2 => ?_)
        have l1 := cn_lt (show b < 23 from hb) hh
        have l2 := cn_lt (show b2 < 23 from g1) g2
        have m1 := ab_mono q9 (i := k + 1) (j := c) (by omega) (by omega)
        have m0 := ab0 k (by omega)
        unfold szf at v7
        rw [show (4 * ((ab k + cn (hs t k) b + cn (hs t k) b / 4 + 1) % 24) + w) / 4 = (ab k + cn (hs t k) b + cn (hs t k) b / 4 + 1) % 24 by omega]
        exact md_ne (by omega) (by omega)
  · unfold rUp
    rw [t2]
    refine ⟨r1, ?_, r3, fun f g i hf hg hi hne q => ?_, fun b hb _ => ⟨?_, fun w hw => (ec b hb w hw).symm⟩, fun b hb => ?_, fun ⟨b, hb, q⟩ => ?_, ?_⟩
    · rw [y12]; exact (ec 6 (Or.inl (by omega)) 0 (by omega)).symm
    · have := r1.2.1 f g 6 i hf hg (by omega) (by omega) hne q.symm
      omega
    · have hb23 : b < 23 := by
        rcases hb with h | ⟨-, f, hf, h⟩
        · omega
        · rw [← h]; exact fsF_lt (r1.1 f hf) 6 (by omega)
      rw [(y3 b hb23).2]; decide
    · rw [(y3 b (by omega)).2]; decide
    · rw [(y3 b hb).2] at q; exact absurd q (by decide)
    · rw [cn_0 (fun i hi => (y3 i hi).1), cn_0 (fun i hi => (y3 i hi).2)]; decide
end cm
