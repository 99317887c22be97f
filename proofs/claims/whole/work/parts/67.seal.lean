def comR (s0 : tj_S) : Option (Int32 × tj_S) :=
    bd (f_Mem_logBlocksNeeded s0) fun r3 s2 =>
    if r3 = (0 : Int32) then
      some ((0 : Int32), s2)
    else
      bd (f_Log_oldestInTheWayOf r3 s2) fun r6 s5 =>
      bd (f_Disk_checkpointOldest r6 s5) fun r9 s8 =>
      if r9 = (0 : Int32) then
        some ((-2 : Int32), s8)
      else
        bd (f_Disk_writeTransaction_10 r3 s8) fun r12 s11 =>
        if r12 = (0 : Int32) then
          some ((-2 : Int32), s11)
        else
          bv (f_Mem_startTransaction s11) fun s14 =>
          some (r3, s14)
theorem com_eq (s : tj_S) : f_X_commitRunning s = if (s 0 3) = (1 : Int32) then (bd (f_X_writeFirstDirty (s 10 2) s) fun r20 s19 => if r20 = (0 : Int32) then some ((-2 : Int32), s19) else comR s19) else comR s := rfl
def selE (n : Int32) : Int32 → tj_S → Option (Int32 × tj_S) := fun _ s45 => bv (f_Mod_enter n s45) fun s47 => some (n, s47)
def selK (n : Int32) : Int32 → Int32 → tj_S → Option (Int32 × tj_S) := fun x28 x29 s30 =>
        if x29 ≤ (0 : Int32) then
          f_Mod_seal_L90 n x28 x29 (selE n) 100 (0 : Int32) s30
        else
          bd (f_Mod_retire x29 s30) fun r50 s49 =>
          if r50 = (0 : Int32) then
            some ((-2 : Int32), s49)
          else
            f_Mod_seal_L90 n x28 x29 (selE n) 100 (0 : Int32) s49
def selR : tj_S → Option (Int32 × tj_S) := fun s9 =>
    bd (f_Mod_needs s9) fun r12 s11 =>
    if r12 = (0 : Int32) then
      some ((0 : Int32), s11)
    else
      bd (f_Mod_vacant s11) fun r15 s14 =>
      f_Mod_seal_L44 r12 (selK r12) 100 r15 (0 : Int32) s14
theorem sel_eq (t : tj_S) : f_Mod_seal t = f_Mod_seal_L0 selR 100 t := rfl
section sl
variable {c o d : Nat} {z ab e lenC len : Nat → Nat} {rfC rf : Nat → Nat → Nat}
/-- what holds of the state behind a commit that did not fail -/
def okC (t : tj_S) (len : Nat → Nat) (rf : Nat → Nat → Nat) (s1 t1 : tj_S) : Prop := ∃ (c o d : Nat) (z ab e lenC : Nat → Nat) (rfC : Nat → Nat → Nat), rPR s1 t1 c o d z ab e lenC len rfC rf ∧ t1 0 12 = 1 ∧ t1 2 = t 2 ∧ t1 0 13 = t 0 13 ∧ cn (t1 3) 23 = 0 ∧ (t1 0 16 = t 0 16 ∨ t1 0 16 = t 2 24)
theorem cp0 (s : tj_S) : f_Disk_checkpointOldest (nI 0) s = some (1, s) := by
  unfold f_Disk_checkpointOldest
  rw [f_Disk_checkpointOldest_L2, if_pos (by decide)]; rfl
theorem we_spec {s t : tj_S} (hR : rPR s t c o d z ab e lenC len rfC rf) (hup : t 0 12 = 1) {n : Nat} (hn : n = szf (cn (t 3) 23) (cn (t 4) 23)) (hpos : 0 < cn (t 3) 23) (hroom : ab c + n ≤ ab 0 + 24) (y1 y2 : Int32) : ∃ (r : Int32) (s1 t1 : tj_S), (bd (f_Disk_writeTransaction_10 (nI n) s) fun r12 s11 => if r12 = (0 : Int32) then some ((-2 : Int32), s11) else bv (f_Mem_startTransaction s11) fun s14 => some (nI n, s14)) = some (r, s1) ∧ f_Mod_seal_L90 (nI n) y1 y2 (selE (nI n)) 100 (0 : Int32) t = some (r, t1) ∧ ((r = -2 ∧ pRel s1 t1) ∨ (¬ r = -2 ∧ okC t len rf s1 t1)) := by
  have hn24 : n ≤ 24 := by
    have := ab_mono hR.1.2.2.2.2.2.1.2.2.2.2.2.2.2.2 (i := 0) (j := c) (by omega) (Nat.le_refl _)
    omega
  obtain ⟨s1, t1, hh⟩ := wt_L hn24 y1 y2 (fun x12 s13 => bv (f_Log_append_10 (nI n) s13) fun s15 => some ((1 : Int32), s15)) (selE (nI n)) n 0 100 100 s t (by omega) (by omega) (by omega) hR hup
  rcases hh with ⟨h1, h2, h3⟩ | ⟨h1, h2, h3, h4, h5⟩
  · rw [show f_Disk_writeTransaction_10 (nI n) s = some (0, s1) from h1, bd_s, if_pos rfl, show f_Mod_seal_L90 (nI n) y1 y2 (selE (nI n)) 100 (0 : Int32) t = some (-2, t1) from h2]
    exact ⟨_, _, _, rfl, rfl, Or.inl ⟨rfl, h3⟩⟩
  · have e3 : t1 3 = t 3 := h5.1 3 (by omega)
    have e4 : t1 4 = t 4 := h5.1 4 (by omega)
    obtain ⟨s2, s3, t2, g1, g2, g3, g4, g5, g6, g7, g8, g9⟩ := committed h3 h4 (n := n) (by rw [e3, e4]; exact hn) (by rw [e3]; exact hpos) hroom
    rw [show f_Disk_writeTransaction_10 (nI n) s = _ from h1, show f_Mod_seal_L90 (nI n) y1 y2 (selE (nI n)) 100 (0 : Int32) t = _ from h2]
    unfold selE
    rw [g1, g3, bv_s, bv_s, bd_s, if_neg h10, g2, bv_s]
    refine ⟨_, _, _, rfl, rfl, Or.inr ⟨?_, _, _, _, _, _, _, _, _, g4, g5, ?_, ?_, cn_0 (fun i hi => (g7 i hi).1), Or.inr ?_⟩⟩
    · intro q
      have := congrArg Int32.toInt q
      rw [nI_toInt (by omega)] at this
      have k : (-2 : Int32).toInt = -2 := by decide
      omega
    · rw [g6, h5.1 2 (by omega)]
    · rw [g9, h5.2 13 (by omega) (by omega) (by omega)]
    · rw [g8, h5.1 2 (by omega)]
theorem sr_spec {s t : tj_S} (hR : rPR s t c o d z ab e lenC len rfC rf) (hup : t 0 12 = 1) : ∃ (r : Int32) (s1 t1 : tj_S), comR s = some (r, s1) ∧ selR t = some (r, t1) ∧ ((r = -2 ∧ pRel s1 t1) ∨ (¬ r = -2 ∧ okC t len rf s1 t1)) := by
  have hM := hR.1.2.2.2.1
  have hL := hR.1.2.2.2.2.2.1
  have hU := hR.2 hup
  unfold comR selR
  rw [lb_spec hM.1 hM.2.1, nd_spec hM.1.2 hM.2.1.2, bd_s, bd_s]
  by_cases h0 : cn (t 3) 23 = 0
  · have e0 : ndv (cn (t 3) 23) (cn (t 4) 23) = 0 := if_pos h0
    rw [e0, if_pos (show nI 0 = 0 from rfl), if_pos (show nI 0 = 0 from rfl)]
    exact ⟨_, _, _, rfl, rfl, Or.inr ⟨by decide, c, o, d, z, ab, e, lenC, rfC, hR, hup, rfl, rfl, h0, Or.inl rfl⟩⟩
  · have e0 : ndv (cn (t 3) 23) (cn (t 4) 23) = szf (cn (t 3) 23) (cn (t 4) 23) := if_neg h0
    have h24 := hU.2.2.2.2.2.2.2
    obtain ⟨n, hn⟩ : ∃ n, n = szf (cn (t 3) 23) (cn (t 4) 23) := ⟨_, rfl⟩
    rw [e0, ← hn]
    rw [← hn] at h24
    have hn3 : 0 < n := by unfold szf at hn; omega
    rw [if_neg (nI_ne0 hn3 (by omega)), if_neg (nI_ne0 hn3 (by omega)), vc_spec hL, bd_s]
    have hc := hL.1
    have hab := hL.2.2.2.2.2.2.2.1
    obtain ⟨K, P, k1, k2, k3, k4, k5⟩ := ow_L hL h24 (fun x19 x20 s21 => some (x20, s21)) (selK (nI n)) c 0 100 100 (by omega) (by omega) (by omega)
    unfold f_Log_oldestInTheWayOf
    rw [fp_spec hL, bd_s, show f_Log_oldestInTheWayOf_L7 (nI n) (fun x19 x20 s21 => some (x20, s21)) 100 (nI (24 - (ab c - ab 0))) (0 : Int32) s = some (nI K, s) from k4, bd_s, show f_Mod_seal_L44 (nI n) (selK (nI n)) 100 (nI (24 - (ab c - ab 0))) (0 : Int32) t = selK (nI n) (nI P) (nI K) t from k5]
    unfold selK
    by_cases hK : K = 0
    · subst hK
      have m := ab_mono hL.2.2.2.2.2.2.2.2 (i := 0) (j := c) (by omega) (Nat.le_refl _)
      rw [cp0, bd_s, if_neg h10, if_pos (show nI 0 ≤ 0 from by decide)]
      exact we_spec hR hup hn (by omega) (by omega) (nI P) (nI 0)
    · rw [if_neg (nI_nle (by omega) (by omega))]
      obtain ⟨r, s1, t1, g1, g2, g3⟩ := rt_spec (K := K) (by omega) k2 hR
      rw [g1, g2, bd_s, bd_s]
      rcases g3 with ⟨rfl, g3⟩ | ⟨rfl, g3, g4, g5⟩
      · rw [if_pos rfl, if_pos rfl]
        exact ⟨_, _, _, rfl, rfl, Or.inl ⟨rfl, g3⟩⟩
      · rw [if_neg h10, if_neg h10]
        obtain ⟨b2, b3, b4, b5, b0⟩ := g5
        obtain ⟨r, s2, t2, w1, w2, w3⟩ := we_spec g3 (by rw [g4]; exact hup) (n := n) (by rw [b3, b4]; exact hn) (by rw [b3]; omega) (by
          show ab (c - K + K) + n ≤ ab (0 + K) + 24
          rw [show c - K + K = c by omega, Nat.zero_add]
          have m := ab_mono hL.2.2.2.2.2.2.2.2 (i := K) (j := c) (by omega) (Nat.le_refl _)
          omega) (nI P) (nI K)
        refine ⟨r, s2, t2, w1, w2, ?_⟩
        rcases w3 with w3 | ⟨w3, c1, o1, d1, z1, ab1, e1, l1, r1, v1, v2, v3, v4, v5, v6⟩
        · exact Or.inl w3
        · refine Or.inr ⟨w3, c1, o1, d1, z1, ab1, e1, l1, r1, v1, v2, by rw [v3, b2], by rw [v4, b0 13 (by omega) (by omega) (by omega) (by omega)], v5, ?_⟩
          rcases v6 with v6 | v6
          · exact Or.inl (by rw [v6, b0 16 (by omega) (by omega) (by omega) (by omega)])
          · exact Or.inr (by rw [v6, b2])
/-- the commit: the class's commitRunning, the reference's seal -/
theorem se_spec {s t : tj_S} (hR : rPR s t c o d z ab e lenC len rfC rf) (hup : t 0 12 = 1) : ∃ (r : Int32) (s1 t1 : tj_S), f_X_commitRunning s = some (r, s1) ∧ f_Mod_seal t = some (r, t1) ∧ ((r = -2 ∧ pRel s1 t1) ∨ (¬ r = -2 ∧ okC t len rf s1 t1)) := by
  rw [com_eq, sel_eq]
  have hm := hR.1.2.1.1
  have hd := hR.1.2.2.2.2.1.1
  by_cases q : t 0 13 = 1
  · rw [if_pos (by rw [hm]; exact q), hR.1.2.2.2.2.1.2.1]
    obtain ⟨r, s1, t1, h1, h2⟩ := or_L (M := d) hd selR d 0 100 100 e s t (by omega) (by omega) (by omega) hR.1 hup q (hR.2 hup)
    rw [show f_X_writeFirstDirty (nI d) s = some (r, s1) from h1, bd_s]
    rcases h2 with ⟨rfl, h2, h3⟩ | ⟨rfl, h2, e1, h3, h4, h5, h6, h7, h8⟩
    · rw [if_pos rfl, h3]; exact ⟨_, _, _, rfl, rfl, Or.inl ⟨rfl, h2⟩⟩
    · rw [if_neg h10, h2]
      obtain ⟨r, s2, t2, w1, w2, w3⟩ := sr_spec (s := s1) (t := t1) ⟨h3, fun _ => h5⟩ h4
      refine ⟨r, s2, t2, w1, w2, ?_⟩
      rcases w3 with w3 | ⟨w3, c1, o1, d1, z1, ab1, e2, l1, r1, v1, v2, v3, v4, v5, v6⟩
      · exact Or.inl w3
      · refine Or.inr ⟨w3, c1, o1, d1, z1, ab1, e2, l1, r1, v1, v2, by rw [v3, h6], by rw [v4, h7], v5, ?_⟩
        rcases v6 with v6 | v6
        · exact Or.inl (by rw [v6, h8])
        · exact Or.inr (by rw [v6, h6])
  · rw [if_neg (by rw [hm]; exact q), show f_Mod_seal_L0 selR 100 t = selR t from by rw [f_Mod_seal_L0, if_neg q]]
    exact sr_spec hR hup
end sl
theorem okC_p {t s1 t1 : tj_S} {len : Nat → Nat} {rf : Nat → Nat → Nat} (h : okC t len rf s1 t1) : pRel s1 t1 := by
  obtain ⟨c1, o1, d1, z1, ab1, e1, l1, r1, v1, -⟩ := h
  exact rPR_p v1
theorem q_commit : sim_commit pRel := by
  intro s t h
  obtain ⟨c, o, d, z, ab, e, lC, rC, hB, hU⟩ := id h
  unfold f_X_commit f_Mod_commit
  rcases up_cases hB.1 with ⟨e1, e2⟩ | ⟨e1, e2, e3⟩
  · exact ⟨_, _, _, if_pos e1, if_pos e2, h⟩
  · obtain ⟨len, rf, hu⟩ := hU e3
    obtain ⟨r, s1, t1, w1, w2, w3⟩ := se_spec (s := s) (t := t) ⟨hB, fun _ => hu⟩ e3
    rw [if_neg e1, if_neg e2, w1, w2]
    refine ⟨_, _, _, rfl, rfl, ?_⟩
    rcases w3 with w3 | w3
    · exact w3.2
    · exact okC_p w3.2
/-- behind the check for a large transaction -/
def okR (t : tj_S) (len : Nat → Nat) (rf : Nat → Nat → Nat) (s1 t1 : tj_S) : Prop := ∃ (c o d : Nat) (z ab e lenC : Nat → Nat) (rfC : Nat → Nat → Nat), rPR s1 t1 c o d z ab e lenC len rfC rf ∧ t1 0 12 = 1 ∧ t1 2 = t 2 ∧ t1 0 13 = t 0 13 ∧ ndv (cn (t1 3) 23) (cn (t1 4) 23) ≤ 12 ∧ (t1 0 16 = t 0 16 ∨ t1 0 16 = t 2 24)
theorem rd_spec {c o d : Nat} {z ab e lenC len : Nat → Nat} {rfC rf : Nat → Nat → Nat} {s t : tj_S} (hR : rPR s t c o d z ab e lenC len rfC rf) (hup : t 0 12 = 1) : ∃ (r : Int32) (s1 t1 : tj_S), f_X_commitIfLarge s = some (r, s1) ∧ f_Mod_ready t = some (r, t1) ∧ ((r = 0 ∧ pRel s1 t1) ∨ (r = 1 ∧ okR t len rf s1 t1)) := by
  have hM := hR.1.2.2.2.1
  unfold f_X_commitIfLarge f_Mod_ready
  rw [lb_spec hM.1 hM.2.1, nd_spec hM.1.2 hM.2.1.2, bd_s, bd_s]
  have hb : ndv (cn (t 3) 23) (cn (t 4) 23) < 1000 := by
    have h1 := cn_le (t 3) 23
    have h2 := cn_le (t 4) 23
    unfold ndv szf
    split <;> omega
  by_cases q : ndv (cn (t 3) 23) (cn (t 4) 23) ≤ 12
  · rw [if_pos (by rw [show (nI (ndv (cn (t 3) 23) (cn (t 4) 23)) ≤ (12 : Int32)) = (ndv (cn (t 3) 23) (cn (t 4) 23) ≤ 12) from le_n (i := 12) (by omega) (by omega)]; exact q), if_pos (by rw [show (nI (ndv (cn (t 3) 23) (cn (t 4) 23)) ≤ (12 : Int32)) = (ndv (cn (t 3) 23) (cn (t 4) 23) ≤ 12) from le_n (i := 12) (by omega) (by omega)]; exact q)]
    exact ⟨_, _, _, rfl, rfl, Or.inr ⟨rfl, c, o, d, z, ab, e, lenC, rfC, hR, hup, rfl, rfl, q, Or.inl rfl⟩⟩
  · rw [if_neg (by rw [show (nI (ndv (cn (t 3) 23) (cn (t 4) 23)) ≤ (12 : Int32)) = (ndv (cn (t 3) 23) (cn (t 4) 23) ≤ 12) from le_n (i := 12) (by omega) (by omega)]; exact q), if_neg (by rw [show (nI (ndv (cn (t 3) 23) (cn (t 4) 23)) ≤ (12 : Int32)) = (ndv (cn (t 3) 23) (cn (t 4) 23) ≤ 12) from le_n (i := 12) (by omega) (by omega)]; exact q)]
    obtain ⟨r, s1, t1, w1, w2, w3⟩ := se_spec hR hup
    rw [w1, w2, bd_s, bd_s]
    rcases w3 with ⟨rfl, w3⟩ | ⟨h2, w3⟩
    · rw [if_pos rfl, if_pos rfl]; exact ⟨_, _, _, rfl, rfl, Or.inl ⟨rfl, w3⟩⟩
    · rw [if_neg h2, if_neg h2]
      obtain ⟨c1, o1, d1, z1, ab1, e2, l1, r1, v1, v2, v3, v4, v5, v6⟩ := w3
      refine ⟨_, _, _, rfl, rfl, Or.inr ⟨rfl, c1, o1, d1, z1, ab1, e2, l1, r1, v1, v2, v3, v4, ?_, v6⟩⟩
      unfold ndv; rw [if_pos v5]; omega
