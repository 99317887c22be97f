def shX (a1 a2 r6 r9 : Int32) : Int32 → tj_S → Option tj_S := fun x28 s29 =>
    if r6 ≤ (2 : Int32) then
      bv (f_Mem_setWord a1 (0 : Int32) a2 s29) fun s31 =>
      bv (f_Mem_join a1 s31) fun s33 =>
      some s33
    else
      if (2 : Int32) < r9 then
        bv (f_Mem_setWord a1 (0 : Int32) a2 s29) fun s35 =>
        bv (f_Mem_join a1 s35) fun s37 =>
        some s37
      else
        bv (f_X_freeIndex a1 s29) fun s39 =>
        bv (f_Mem_setWord a1 (0 : Int32) a2 s39) fun s41 =>
        bv (f_Mem_join a1 s41) fun s43 =>
        some s43
theorem shx_eq (a1 a2 : Int32) (s : tj_S) : f_X_shorten a1 a2 s = (bd (f_Mem_fileLength a1 s) fun r3 s2 => bd (f_X_dataBlocksFor r3 s2) fun r6 s5 => bd (f_X_dataBlocksFor a2 s5) fun r9 s8 => f_X_shorten_L22 a1 a2 r6 r9 (shX a1 a2 r6 r9) 100 r9 s8) := rfl
def shF (a1 a2 : Int32) (s29 : tj_S) : Option tj_S :=
        gd (inb ((4 : Int32) * a1) 92) <|
        nm (up2 s29 2 (Int32.toNatClampNeg ((4 : Int32) * a1)) a2) fun s31 =>
        gd (inb a1 23) <|
        nm (up2 s31 3 (Int32.toNatClampNeg a1) (vp_nar .boolean (1 : Int32))) fun s33 =>
        some s33
def shJ (a1 a2 : Int32) (s29 : tj_S) : Option tj_S :=
        gd (inb (((4 : Int32) * a1) + (3 : Int32)) 92) <|
        gd (inb (s29 2 (Int32.toNatClampNeg (((4 : Int32) * a1) + (3 : Int32)))) 23) <|
        nm (up2 s29 3 (Int32.toNatClampNeg (s29 2 (Int32.toNatClampNeg (((4 : Int32) * a1) + (3 : Int32))))) (vp_nar .boolean (1 : Int32))) fun s36 =>
        shF a1 a2 s36
def shK (a1 a2 x2 : Int32) : Int32 → Int32 → tj_S → Option tj_S := fun x27 x28 s29 =>
    if x2 ≤ (8 : Int32) then
      if x27 = (0 : Int32) then shF a1 a2 s29 else shJ a1 a2 s29
    else
      if (8 : Int32) < a2 then
        if x27 = (0 : Int32) then shF a1 a2 s29 else shJ a1 a2 s29
      else
        bv (f_Mod_release (((4 : Int32) * a1) + (3 : Int32)) (1 : Int32) s29) fun s55 => shF a1 a2 s55
theorem shm_eq (a1 a2 : Int32) (t : tj_S) : f_Mod_shorten a1 a2 t = (gd (inb ((4 : Int32) * a1) 92) <| nm ((t 2 (Int32.toNatClampNeg ((4 : Int32) * a1)))) fun x2 => f_Mod_shorten_L15 a1 a2 x2 (shK a1 a2 x2) 100 (0 : Int32) (0 : Int32) t) := rfl
theorem shF_spec {f n : Nat} (hf : f < 6) (t : tj_S) : shF (nI f) (nI n) t = some (up2 (up2 t 2 (4 * f) (nI n)) 3 f 1) := by
  unfold shF
  rw [lnM, gd_in (by omega) (by omega), nm_s, gd_in (by omega) (by omega), nm_s, cl_n (by omega), cl_n (by omega), vn01 (Or.inr rfl)]
theorem sh_spec {s t : tj_S} {c o d f n : Nat} {z ab e lenC len : Nat → Nat} {rfC rf : Nat → Nat → Nat} (hR : rPR s t c o d z ab e lenC len rfC rf) (hup : t 0 12 = 1) (hf : f < 6) (hn : n ≤ len f) (h12 : ndv (cn (t 3) 23) (cn (t 4) 23) ≤ 12) : ∃ (s1 t1 : tj_S) (d1 : Nat) (e1 : Nat → Nat) (rf1 : Nat → Nat → Nat), f_X_shorten (nI f) (nI n) s = some s1 ∧ f_Mod_shorten (nI f) (nI n) t = some t1 ∧ rPR s1 t1 c o d1 z ab e1 lenC (fun g => if g = f then n else len g) rfC rf1 ∧ cn (t1 3) 23 ≤ cn (t 3) 23 + 3 ∧ cn (t1 4) 23 ≤ cn (t 4) 23 + 1 ∧ t1 3 f = 1 ∧ t1 0 12 = 1 := by
  have hU := hR.2 hup
  have r1 := hU.1
  have hF := r1.1 f hf
  have h24 := hF.1
  have hW := hR.1.2.2.1
  obtain ⟨d1, e1, s1, t1, w1, w2, w3⟩ := sh_L (s0 := s) (t0 := t) (c := c) (f := f) (a := (n + 3) / 4) (n := n) (len := len) (rf0 := rf) hf r1 (lgO_of hR) hn rfl (shX (nI f) (nI n) (nI ((len f + 3) / 4)) (nI ((n + 3) / 4))) (shK (nI f) (nI n) (nI (len f))) ((len f + 3) / 4 - (n + 3) / 4) ((n + 3) / 4) 100 (100 - (n + 3) / 4) d e s t (by omega) (Nat.le_refl _) (by omega) (by omega) (sh_0 hR hup)
  have ex : f_X_shorten (nI f) (nI n) s = shX (nI f) (nI n) (nI ((len f + 3) / 4)) (nI ((n + 3) / 4)) (nI ((len f + 3) / 4)) s1 := by
    rw [shx_eq, ln_spec hf, bd_s, hW.2 _ (by omega), hF.2.1, df_spec (by omega), bd_s, df_spec (by omega), bd_s]
    exact w1
  have e0 : tlB ((n + 3) / 4) ((n + 3) / 4) = false := by unfold tlB; exact decide_eq_false (by omega)
  have em : f_Mod_shorten (nI f) (nI n) t = shK (nI f) (nI n) (nI (len f)) (flI (tlB ((n + 3) / 4) ((len f + 3) / 4))) (nI 6) t1 := by
    rw [shm_eq, lnM, gd_in (by omega) (by omega), nm_s, cl_n (by omega), hF.2.1]
    rw [e0] at w2
    have k1 := sk_1 (f := f) h24 hn (shK (nI f) (nI n) (nI (len f))) (flI false) t ((n + 3) / 4) 0 (100 - (n + 3) / 4) (by omega)
    rw [show 100 - (n + 3) / 4 + (n + 3) / 4 = 100 by omega] at k1
    exact Eq.trans k1 w2
  have jn : ∀ u : tj_S, (bv (f_Mem_setWord (nI f) (0 : Int32) (nI n) u) fun s31 => bv (f_Mem_join (nI f) s31) fun s33 => some s33) = some (up2 (up2 u 11 (4 * f) (nI n)) 10 3 (u 10 3 ||| ((1 : Int32) <<< (nI f &&& 31)))) := by
    intro u
    rw [show (0 : Int32) = nI 0 from rfl, sw_spec (by omega) (by omega), bv_s, jn_spec (by omega), bv_s, up2_ne (show 10 ≠ 11 by omega), Nat.add_zero]
  have up1 : ∀ t4 : tj_S, t4 0 12 = 1 → up2 (up2 t4 2 (4 * f) (nI n)) 3 f 1 0 12 = 1 := fun t4 h => by rw [up2_ne (by omega), up2_ne (by omega)]; exact h
  have t12 : t1 0 12 = 1 := by rw [w3.2.2.1.2 12 (by omega)]; exact hup
  rw [ex, em]
  by_cases hab : len f ≤ 8 ∨ 8 < n
  · obtain ⟨k1, k2, k3⟩ := sh_AB hR hup hf hn h12 hab w3
    refine ⟨_, _, d1, e1, _, ?_, ?_, k1, k2, k3, ?_, ?_⟩
    · unfold shX
      by_cases q : len f ≤ 8
      · rw [if_pos (by rw [show (nI ((len f + 3) / 4) ≤ (2 : Int32)) = ((len f + 3) / 4 ≤ 2) from le_n (i := 2) (by omega) (by omega)]; omega)]; exact jn s1
      · rw [if_neg (by rw [show (nI ((len f + 3) / 4) ≤ (2 : Int32)) = ((len f + 3) / 4 ≤ 2) from le_n (i := 2) (by omega) (by omega)]; omega), if_pos (by rw [show ((2 : Int32) < nI ((n + 3) / 4)) = (2 < (n + 3) / 4) from lt_n (a := 2) (by omega) (by omega)]; omega)]; exact jn s1
    · have hE : (if flI (tlB ((n + 3) / 4) ((len f + 3) / 4)) = (0 : Int32) then shF (nI f) (nI n) t1 else shJ (nI f) (nI n) t1) = some (up2 (up2 (tTl t1 (rf f 6) (tlB ((n + 3) / 4) ((len f + 3) / 4))) 2 (4 * f) (nI n)) 3 f 1) := by
        have hv : t1 2 (4 * f + 3) = nI (rf f 6) := by
          have := (w3.1.2.2.2.2.1 f hf).2.2.1
          rw [clrR_o (by omega)] at this; exact this
        have hl6 := fsF_lt hF 6 (by omega)
        cases tlB ((n + 3) / 4) ((len f + 3) / 4)
        · rw [if_pos (show flI false = 0 from rfl), shF_spec hf]; rfl
        · rw [if_neg (show ¬ flI true = 0 from by decide)]
          unfold shJ
          rw [show (4 * nI f + 3 : Int32) = nI (4 * f + 3) from adr2 (w := 3), gd_in (by omega) (by omega), cl_n (by omega), hv, gd_in hl6 (by omega), nm_s, cl_n (by omega), vn01 (Or.inr rfl), shF_spec hf]; rfl
      unfold shK
      by_cases q : len f ≤ 8
      · rw [if_pos (by rw [show (nI (len f) ≤ (8 : Int32)) = (len f ≤ 8) from le_n (i := 8) (by omega) (by omega)]; exact q)]; exact hE
      · rw [if_neg (by rw [show (nI (len f) ≤ (8 : Int32)) = (len f ≤ 8) from le_n (i := 8) (by omega) (by omega)]; exact q), if_pos (by rw [show ((8 : Int32) < nI n) = (8 < n) from lt_n (a := 8) (by omega) (by omega)]; omega)]; exact hE
    · rw [up2_at]
    · exact up1 _ (by rw [tTl_o (by omega)]; exact t12)
  · obtain ⟨s4, t3, d2, e2, k1, k2, k6, k3, k4, k5⟩ := sh_C hR hup hf (by omega) (by omega) h12 w3
    refine ⟨_, _, d2, e2, _, ?_, ?_, k3, k4, k5, ?_, ?_⟩
    · unfold shX
      rw [if_neg (by rw [show (nI ((len f + 3) / 4) ≤ (2 : Int32)) = ((len f + 3) / 4 ≤ 2) from le_n (i := 2) (by omega) (by omega)]; omega), if_neg (by rw [show ((2 : Int32) < nI ((n + 3) / 4)) = (2 < (n + 3) / 4) from lt_n (a := 2) (by omega) (by omega)]; omega), k1, bv_s]; exact jn s4
    · unfold shK
      rw [if_neg (by rw [show (nI (len f) ≤ (8 : Int32)) = (len f ≤ 8) from le_n (i := 8) (by omega) (by omega)]; omega), if_neg (by rw [show ((8 : Int32) < nI n) = (8 < n) from lt_n (a := 8) (by omega) (by omega)]; omega), show (4 * nI f + 3 : Int32) = nI (4 * f + 3) from adr2 (w := 3), k2, bv_s, shF_spec hf]
    · rw [up2_at]
    · exact up1 _ k6
theorem q_cut : sim_cut pRel := by
  intro a b s t h
  obtain ⟨c, o, d, z, ab, e, lC, rC, hB, hU⟩ := id h
  unfold f_X_cut f_Mod_cut
  rcases up_cases hB.1 with ⟨e1, e2⟩ | ⟨e1, e2, e3⟩
  · exact ⟨_, _, _, if_pos e1, if_pos e2, h⟩
  · obtain ⟨len, rf, hu⟩ := hU e3
    have hR : rPR s t c o d z ab e lC len rC rf := ⟨hB, fun _ => hu⟩
    rw [if_neg e1, if_neg e2]
    rcases fl_cases a s t with ⟨f1, f2⟩ | ⟨f, hf, rfl, f1, f2⟩
    · rw [f1, f2]; exact ⟨_, _, _, rfl, rfl, h⟩
    · have hF := hu.1.1 f hf
      rw [f1, f2, bd_s, bd_s, if_neg h10, if_neg h10]
      by_cases hb : b < 0
      · rw [if_pos hb, if_pos hb]; exact ⟨_, _, _, rfl, rfl, h⟩
      obtain ⟨n, hn, rfl⟩ := nI_of hb
      rw [if_neg hb, if_neg hb, ln_spec hf, bd_s, hB.2.2.1.2 _ (by omega), lnM, gd_in (by omega) (by omega), cl_n (by omega), hF.2.1]
      have h24 := hF.1
      by_cases q : n < len f
      · rw [if_pos (by rw [lt_n hn (by omega)]; exact q), if_neg (by rw [le_n (by omega) hn]; omega)]
        obtain ⟨r, s1, t1, w1, w2, w3⟩ := rd_spec hR e3
        rw [w1, w2, bd_s, bd_s]
        rcases w3 with ⟨rfl, w3⟩ | ⟨rfl, c1, o1, d1, z1, ab1, e4, l1, r1, v1, v2, v3, v4, v5, v6⟩
        · rw [if_pos rfl, if_pos rfl]; exact ⟨_, _, _, rfl, rfl, w3⟩
        · obtain ⟨s2, t2, d2, e5, rf1, g1, g2, g3, -⟩ := sh_spec v1 v2 hf (n := n) (by omega) v5
          rw [if_neg h10, if_neg h10, g1, g2, bv_s, bv_s]
          exact ⟨_, _, _, rfl, rfl, rPR_p g3⟩
      · rw [if_neg (by rw [lt_n hn (by omega)]; exact q), if_pos (by rw [le_n (by omega) hn]; omega)]
        exact ⟨_, _, _, rfl, rfl, h⟩
