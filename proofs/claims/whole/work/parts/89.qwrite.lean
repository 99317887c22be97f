theorem q_write : sim_write pRel := by
  intro a b v s t h
  obtain ⟨c, o, d, z, ab, e, lC, rC, hB, hU⟩ := id h
  rw [wrm_eq]
  unfold f_X_write
  rcases up_cases hB.1 with ⟨e1, e2⟩ | ⟨e1, e2, e3⟩
  · exact ⟨_, _, _, if_pos e1, if_pos e2, h⟩
  obtain ⟨len, rf, hu⟩ := hU e3
  have hR : rPR s t c o d z ab e lC len rC rf := ⟨hB, fun _ => hu⟩
  rw [if_neg e1, if_neg e2]
  rcases fl_cases a s t with ⟨f1, f2⟩ | ⟨f, hf, rfl, f1, f2⟩
  · rw [f1, f2, bd_s, bd_s, if_pos (rfl : (0 : Int32) = 0), if_pos (rfl : (0 : Int32) = 0)]; exact ⟨_, _, _, rfl, rfl, h⟩
  have hF := hu.1.1 f hf
  rw [f1, f2, bd_s, bd_s, if_neg h10, if_neg h10]
  by_cases hb : b < 0
  · rw [if_pos hb, if_pos hb]; exact ⟨_, _, _, rfl, rfl, h⟩
  obtain ⟨p, hn, rfl⟩ := nI_of hb
  have h24 := hF.1
  rw [if_neg hb, if_neg hb]
  by_cases hp : p < 24
  case neg =>
    rw [if_neg (show ¬ nI p < (24 : Int32) by rw [show (nI p < (24 : Int32)) = (p < 24) from lt_n (i := 24) hn (by omega)]; exact hp), if_pos (show (23 : Int32) < nI p by rw [show ((23 : Int32) < nI p) = (23 < p) from lt_n (a := 23) (by omega) hn]; omega)]
    exact ⟨_, _, _, rfl, rfl, h⟩
  have hc : t 2 (Int32.toNatClampNeg ((4 : Int32) * nI f)) = nI (len f) := by rw [lnM, cl_n (by omega), hF.2.1]
  have hg : ∀ k : Option (Int32 × tj_S), gd (inb ((4 : Int32) * nI f) 92) k = k := fun k => by rw [lnM, gd_in (by omega) (by omega)]
  rw [if_pos (show nI p < (24 : Int32) by rw [show (nI p < (24 : Int32)) = (p < 24) from lt_n (i := 24) hn (by omega)]; exact hp), if_neg (show ¬ (23 : Int32) < nI p by rw [show ((23 : Int32) < nI p) = (23 < p) from lt_n (a := 23) (by omega) hn]; omega), ln_spec hf, bd_s, hB.2.2.1.2 _ (by omega), hF.2.1, hg, hc]
  by_cases q : len f < p
  · rw [if_pos (show nI (len f) < nI p by rw [lt_n (by omega) hn]; exact q), if_neg (show ¬ nI p ≤ nI (len f) by rw [le_n hn (by omega)]; omega)]
    exact ⟨_, _, _, rfl, rfl, h⟩
  obtain ⟨N, hN⟩ : ∃ N, N = popN (opB rf (t 0 16)) 16 := ⟨_, rfl⟩
  have hN16 : N ≤ 16 := by rw [hN]; exact popN_le 16
  have T : f_Mem_takeableCount s = some (nI N, s) := by rw [hN]; exact tc_spec hu.1 (hB.2.2.1.2 24 (by omega)) hB.2.2.2.1.2.2
  have O : f_Mod_opens t = some (nI N, t) := by rw [hN]; exact ops_spec hu.1
  have n0 : ¬ nI N < (0 : Int32) := by rw [show (nI N < (0 : Int32)) = (N < 0) from lt_n (i := 0) (by omega) (by omega)]; omega
  have n00 : nI 0 ≤ nI N := by rw [le_n (by omega) (by omega)]; omega
  have n1 : (nI N < (1 : Int32)) = (N < 1) := lt_n (i := 1) (by omega) (by omega)
  have n2 : (nI N < (2 : Int32)) = (N < 2) := lt_n (i := 2) (by omega) (by omega)
  have n11 : (nI 1 ≤ nI N) = (1 ≤ N) := le_n (by omega) (by omega)
  have n22 : (nI 2 ≤ nI N) = (2 ≤ N) := le_n (by omega) (by omega)
  have h40 : (nI (p % 4) ≤ (0 : Int32)) = (p % 4 ≤ 0) := le_n (i := 0) (by omega) (by omega)
  obtain ⟨r, s1, t1, w1, w2, w3⟩ := rd_spec hR e3
  rw [if_neg (show ¬ nI (len f) < nI p by rw [lt_n (by omega) hn]; exact q), if_pos (show nI p ≤ nI (len f) by rw [le_n hn (by omega)]; omega), hg, btt hn (by omega), bd_s, T, bd_s, md4 hn]
  by_cases q1 : p = len f
  · rw [← q1, if_pos (rfl : p = p), if_pos (rfl : nI p = nI p)]
    by_cases h4 : p % 4 = 0
    · rw [if_pos h4, if_pos (show nI (p % 4) ≤ (0 : Int32) by rw [h40]; omega)]
      by_cases h8 : p = 8
      · rw [if_pos h8, if_pos (show nI p = (8 : Int32) by rw [h8]; rfl), O, bd_s]
        by_cases hk : 2 ≤ N
        · rw [if_pos (show nI 2 ≤ nI N by rw [n22]; exact hk), if_neg (show ¬ nI N < (2 : Int32) by rw [n2]; omega), w1, w2, bd_s, bd_s]
          rcases w3 with ⟨rfl, w3⟩ | ⟨rfl, c1, o1, d1, z1, ab1, e4, l1, r1, v1, v2, v3, v4, v5, v6⟩
          · rw [if_pos (rfl : (0 : Int32) = 0), if_pos (rfl : (0 : Int32) = 0)]; exact ⟨_, _, _, rfl, rfl, w3⟩
          · have hle := op_ready (fsR_map hu.1) v6
            rw [← hN] at hle
            subst h8
            obtain ⟨s2, s3, t2, g1, g2, g3, g4⟩ := wr_D v1 v2 hf q1 (by omega) v5 v
            rw [if_neg h10, if_neg h10, if_pos (rfl : nI 8 = nI 8), g1, bv_s, g2, bv_s, g3]
            exact ⟨_, _, _, rfl, rfl, g4⟩
        · rw [if_neg (show ¬ nI 2 ≤ nI N by rw [n22]; exact hk), if_pos (show nI N < (2 : Int32) by rw [n2]; omega)]
          exact ⟨_, _, _, rfl, rfl, h⟩
      · rw [if_neg h8, if_neg (show ¬ nI p = (8 : Int32) by rw [show (nI p = (8 : Int32)) = (p = 8) from eq_n (i := 8) hn (by omega)]; exact h8), O, bd_s]
        by_cases hk : 1 ≤ N
        · rw [if_pos (show nI 1 ≤ nI N by rw [n11]; exact hk), if_neg (show ¬ nI N < (1 : Int32) by rw [n1]; omega), w1, w2, bd_s, bd_s]
          rcases w3 with ⟨rfl, w3⟩ | ⟨rfl, c1, o1, d1, z1, ab1, e4, l1, r1, v1, v2, v3, v4, v5, v6⟩
          · rw [if_pos (rfl : (0 : Int32) = 0), if_pos (rfl : (0 : Int32) = 0)]; exact ⟨_, _, _, rfl, rfl, w3⟩
          · have hle := op_ready (fsR_map hu.1) v6
            rw [← hN] at hle
            obtain ⟨s2, s3, t2, g1, g2, g3, g4⟩ := wr_C v1 v2 hf q1 hp h4 h8 (by omega) v5 v
            rw [if_neg h10, if_neg h10, if_pos (rfl : nI p = nI p), g1, bv_s, g2, bv_s, g3]
            exact ⟨_, _, _, rfl, rfl, g4⟩
        · rw [if_neg (show ¬ nI 1 ≤ nI N by rw [n11]; exact hk), if_pos (show nI N < (1 : Int32) by rw [n1]; omega)]
          exact ⟨_, _, _, rfl, rfl, h⟩
    · rw [if_neg h4, if_neg (show ¬ nI (p % 4) ≤ (0 : Int32) by rw [h40]; omega), O, bd_s, if_pos n00, if_neg n0, w1, w2, bd_s, bd_s]
      rcases w3 with ⟨rfl, w3⟩ | ⟨rfl, c1, o1, d1, z1, ab1, e4, l1, r1, v1, v2, v3, v4, v5, v6⟩
      · rw [if_pos (rfl : (0 : Int32) = 0), if_pos (rfl : (0 : Int32) = 0)]; exact ⟨_, _, _, rfl, rfl, w3⟩
      · obtain ⟨s2, s3, t2, g1, g2, g3, g4⟩ := wr_B v1 v2 hf q1 hp h4 v5 v
        rw [if_neg h10, if_neg h10, if_pos (rfl : nI p = nI p), g1, bv_s, g2, bv_s, g3]
        exact ⟨_, _, _, rfl, rfl, g4⟩
  · have q2 : ¬ nI p = nI (len f) := by rw [eq_n hn (by omega)]; exact q1
    rw [if_neg q1, if_neg q2, O, bd_s, if_pos n00, if_neg n0, w1, w2, bd_s, bd_s]
    rcases w3 with ⟨rfl, w3⟩ | ⟨rfl, c1, o1, d1, z1, ab1, e4, l1, r1, v1, v2, v3, v4, v5, v6⟩
    · rw [if_pos (rfl : (0 : Int32) = 0), if_pos (rfl : (0 : Int32) = 0)]; exact ⟨_, _, _, rfl, rfl, w3⟩
    · obtain ⟨s2, t2, g1, g2, g3⟩ := wr_A (p := p) v1 v2 hf (by omega) v5 v
      rw [if_neg h10, if_neg h10, if_neg q2, g1, bv_s, g2]
      exact ⟨_, _, _, rfl, rfl, g3⟩
