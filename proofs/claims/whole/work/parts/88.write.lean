section wr
variable {s t : tj_S} {c o d f p : Nat} {z ab e lenC len : Nat → Nat} {rfC rf : Nat → Nat → Nat}
theorem wr_D (hR : rPR s t c o d z ab e lenC len rfC rf) (hup : t 0 12 = 1) (hf : f < 6) (hp : 8 = len f) (hop : 1 < popN (opB rf (t 0 16)) 16) (h12 : ndv (cn (t 3) 23) (cn (t 4) 23) ≤ 12) (v : Int32) : ∃ (s1 s2 t2 : tj_S), f_X_growByOne (nI f) (nI 8) s = some s1 ∧ f_X_setDataWord (nI f) (nI 8) v s1 = some s2 ∧ (bd (f_Mod_take (((4 : Int32) * nI f) + (3 : Int32)) t) fun r99 s98 => gd (inb r99 23) <| nm (up2 s98 3 (Int32.toNatClampNeg r99) (vp_nar .boolean (1 : Int32))) fun s101 => bd (f_Mod_cell (nI f) (nI 8 / (4 : Int32)) s101) fun r104 s103 => bd (f_Mod_take r104 s103) fun r107 s106 => wrI (nI f) (nI 8) v s106) = some (1, t2) ∧ pRel s2 t2 := by
  have hU := hR.2 hup
  have r1 := hU.1
  have hF := r1.1 f hf
  have hm := mR_of hR hup
  have hz6 : rf f 6 = 0 := hF.2.2.2.2.2.2.2 (by omega)
  have hz : ∀ i, 2 ≤ i → i < 6 → rf f i = 0 := fun i i1 i2 => (hF.2.2.2.2.2.1 i i2).2 (by omega)
  obtain ⟨b, s2, s1, t1, k1, k2, k3, k4, k5, k5', k6, k7, k8, k9, k10, k11, k12⟩ := ax_spec hm hR.1.2.2.2.1.2.2 (by omega) hf hz6 hz
  obtain ⟨rf', hrf'⟩ : ∃ r, r = upR rf f 6 b := ⟨_, rfl⟩
  have hless := op_less (u := t 0 16) (b := b) hf (show 6 < 7 by omega) hz6 k1
  rw [← hrf'] at k7 hless
  have q6 : rf' f 6 = b := by rw [hrf']; exact upR_at
  have qo : ∀ g i, i < 6 → rf' g i = rf g i := fun g i hi => by rw [hrf']; exact upR_o (by omega)
  have qg : ∀ g, g ≠ f → rf' g = rf g := fun g hg => by funext i; rw [hrf']; exact upR_o (by omega)
  -- the reference joins the index
  obtain ⟨t3, ht3⟩ : ∃ t3, t3 = up2 t1 3 b 1 := ⟨_, rfl⟩
  have c3 : t3 3 = upd (upd (t 3) 6 1) b 1 := by rw [ht3, up2_eq, k8]
  have co : ∀ a, a ≠ 3 → t3 a = t1 a := fun a y => by rw [ht3, up2_ne y]
  have hm3 : mR s1 t3 (upd (t 3) 6 1) d e rf' := by
    obtain ⟨m1, m2, m3, m4, m5, m6, m7⟩ := k7
    refine ⟨by rw [co 2 (by omega)]; exact m1, m2, by rw [co 4 (by omega)]; exact m3, ?_, by rw [co 2 (by omega)]; exact m5, m6, by rw [co 2 (by omega)]; exact m7⟩
    unfold rDir at *; rw [co 0 (by omega), co 5 (by omega)]; exact m4
  have u16 : t3 0 16 = t 0 16 := by rw [co 0 (by omega), k12.2 16 (by omega)]
  have hG3 := hm3.2.2.2.2.1
  obtain ⟨b', s3, t2, n1, n2, n3, n4, n5, n6, n7, n8, n9, n10, n11, n12⟩ := ad_spec hm3 (by rw [k11.2, u16]; exact hR.1.2.2.2.1.2.2) (by rw [u16]; omega) hf (i := 2) (by omega) (by rw [qo f 2 (by omega)]; exact hz 2 (by omega) (by omega)) (fun _ => by omega)
  obtain ⟨rf2, hrf2⟩ : ∃ r, r = upR rf' f 2 b' := ⟨_, rfl⟩
  rw [← hrf2] at n7
  rw [q6, decide_eq_true (show 2 ≤ 2 by omega), jx_t] at n7
  have p6 : ∀ g, rf2 g 6 = rf' g 6 := fun g => by rw [hrf2]; exact upR_o (by omega)
  have p2 : rf2 f 2 = b' := by rw [hrf2]; exact upR_at
  have po : ∀ i, i < 6 → i ≠ 2 → rf2 f i = rf f i := fun i hi hn => by rw [hrf2, upR_o (by omega), qo f i hi]
  have pg : ∀ g, g ≠ f → rf2 g = rf g := fun g hg => by rw [← qg g hg]; funext i; rw [hrf2]; exact upR_o (by omega)
  have ex : f_X_growByOne (nI f) (nI 8) s = some (up2 (up2 s3 11 (4 * f) (nI (8 + 1))) 10 3 (s3 10 3 ||| ((1 : Int32) <<< (nI f &&& 31)))) := by
    unfold f_X_growByOne f_X_addDataBlock
    rw [md4 (by omega), if_pos (show nI (8 % 4) = 0 from rfl), dv4 (by omega), show 8 / 4 = 2 from rfl, if_pos (show nI 2 = 2 from rfl), k5, bd_s, k5', bv_s, n5, bv_s, nI_1, glX hf]
  have hix : 8 ≤ 8 → t2 2 (4 * f + 3) = nI b ∧ b < 23 := fun _ => by
    have := (n7.2.2.2.2.1 f hf).2.2.1
    rw [p6, q6] at this
    exact ⟨this, k2⟩
  have em : (bd (f_Mod_take (((4 : Int32) * nI f) + (3 : Int32)) t) fun r99 s98 => gd (inb r99 23) <| nm (up2 s98 3 (Int32.toNatClampNeg r99) (vp_nar .boolean (1 : Int32))) fun s101 => bd (f_Mod_cell (nI f) (nI 8 / (4 : Int32)) s101) fun r104 s103 => bd (f_Mod_take r104 s103) fun r107 s106 => wrI (nI f) (nI 8) v s106) = wrT (nI f) (nI 8) v (up2 (up2 (tTl t2 b true) 2 (4 * f) (nI (8 + 1))) 3 f 1) := by
    rw [show (4 * nI f + 3 : Int32) = nI (4 * f + 3) from adr2 (w := 3), k6, bd_s, gd_in k2 (by omega), nm_s, cl_n (by omega), vn01 (Or.inr rfl), ← ht3, dv4 (by omega), show 8 / 4 = 2 from rfl, ce_spec (rf := rf') hf (by omega) (fun _ => (hG3 f hf).2.2.1), bd_s, n6, bd_s, wrI_eq hf (by omega) v t2 hix, wrG_eq hf, decide_eq_true (show 8 ≤ 8 by omega)]
  have j3 : tTl t2 b true 3 = upd (upd (upd (upd (t 3) 6 1) b 1) 6 1) b 1 := by rw [tTl_3, jx_t, n8, c3]
  have jo : ∀ x, x ≠ 6 → x ≠ b → tTl t2 b true 3 x = t 3 x := fun x y1 y2 => by rw [j3, upd_o y2, upd_o y1, upd_o y2, upd_o y1]
  have j6 : tTl t2 b true 3 6 = 1 := by rw [j3, upd_o (by omega), upd_at]
  have jb : tTl t2 b true 3 b = 1 := by rw [j3, upd_at]
  have cc : cel rf' f 2 = 4 * b := by unfold cel; rw [if_neg (by omega), q6]; omega
  rw [cc] at n10
  have wo : ∀ j, j ≠ 24 → j ≠ 4 * f + 3 → j / 4 ≠ b → j / 4 ≠ b' → tTl t2 b true 2 j = t 2 j := fun j j1 j2 j3 j4 => by
    rw [tTl_o (by omega), n10 j j1 (by omega) j4, co 2 (by omega), k10 j j1 j2 j3]
  have hwG : wG s t f (8 + 1) rf (up2 (up2 s3 11 (4 * f) (nI (8 + 1))) 10 3 (s3 10 3 ||| ((1 : Int32) <<< (nI f &&& 31)))) (up2 (up2 (tTl t2 b true) 2 (4 * f) (nI (8 + 1))) 3 f 1) d e rf2 := by
    refine wg_len (s := s) (t := t) (rf := rf) (s1 := s3) (t1 := tTl t2 b true) hf ?_ (sMm_t k11 n11) ?_ ?_ (fun g hg q => wo _ (by omega) (by omega) (by omega) (by omega)) pg (fun i hi => ⟨fun q => ?_, fun q => ?_⟩) (fun _ => by rw [p6, q6]; omega) (fun q => absurd q (by omega)) (fun k hk q => ?_) (fun k hk q => ?_) (fun b1 hb1 hbf hj => ?_) (fun b1 hb1 q => ?_) (fun _ => j6)
    · obtain ⟨m1, m2, m3, m4, m5, m6, m7⟩ := n7
      refine ⟨by rw [tTl_o (by omega)]; exact m1, ?_, by rw [tTl_o (by omega)]; exact m3, ?_, by rw [tTl_o (by omega)]; exact m5, m6, by rw [tTl_o (by omega)]; exact m7⟩
      · refine mk_congr (fun x hx => ?_) m2
        by_cases y1 : x = b
        · rw [y1, jb, upd_at]
        · by_cases y2 : x = 6
          · rw [y2, j6, upd_o (by omega), upd_at]
          · rw [jo x y2 y1, upd_o y1, upd_o y2, upd_o y2]
      · unfold rDir at *; rw [tTl_o (by omega), tTl_o (by omega)]; exact m4
    · refine tMm_t k12 (tMm_t ⟨fun a x y z v w => co a z, fun i hi => by rw [co 0 (by omega)]⟩ (tMm_t n12 ⟨fun a x y z v w => tTl_o z, fun i hi => by rw [tTl_o (by omega)]⟩))
    · rw [tTl_o (by omega), n9, co 4 (by omega), k9]
    · by_cases y : i = 2
      · rw [y, p2]; omega
      · rw [po i hi y]
        have := ((hF.2.2.2.2.2.1 i hi).1 (by omega)).1; omega
    · rw [po i hi (by omega)]; exact (hF.2.2.2.2.2.1 i hi).2 (by omega)
    · have y1 : k ≠ 6 := fun y => q (by rw [y]; exact hz6)
      have y2 : k ≠ 2 := fun y => q (by rw [y]; exact hz 2 (by omega) (by omega))
      exact po k (by omega) y2
    · by_cases y : k = 2
      · rw [y, p2, ← u16]; exact Or.inr n4
      · rw [po k hk y]; exact Or.inl rfl
    · have nb : b1 ≠ b := fun y => hj (by rw [y]; exact jb)
      have n6b : b1 ≠ 6 := fun y => hj (by rw [y]; exact j6)
      rw [jo b1 n6b nb] at hj
      have hb2 : b1 < 7 ∨ (b1 ≠ 0 ∧ ∃ g, g < 6 ∧ rf g 6 = b1) := by
        rcases hb1 with y | ⟨y, g, hg, y2⟩
        · exact Or.inl y
        · by_cases y3 : g = f
          · rw [p6, y3, q6] at y2; exact absurd y2.symm nb
          · exact Or.inr ⟨y, g, hg, by rw [← pg g y3]; exact y2⟩
      refine ⟨hb2, hj, fun w hw => wo _ (by omega) (by omega) (by omega) (fun y => ?_)⟩
      rcases hb1 with y2 | ⟨y2, g, hg, y3⟩
      · omega
      · exact n3 ⟨g, hg, 6, by omega, by rw [← p6]; omega⟩
    · rw [p6, q6]
      by_cases y1 : b1 = 6
      · exact Or.inr (Or.inl y1)
      · by_cases y2 : b1 = b
        · exact Or.inr (Or.inr y2)
        · rw [jo b1 y1 y2] at q; exact Or.inl q
  obtain ⟨s4, t4, w1, w2, w3⟩ := wr_end (p := 8) hR hup hf (by omega) (by omega) h12 hwG v
  exact ⟨_, s4, t4, ex, w1, by rw [em]; exact w2, w3⟩
end wr
theorem wrm_eq (a1 a2 a3 : Int32) (s0 : tj_S) : f_Mod_write a1 a2 a3 s0 = (
  if (s0 0 12) = (0 : Int32) then
    some ((0 : Int32), s0)
  else
    bd (f_Mod_file a1 s0) fun r3 s2 =>
    if r3 = (0 : Int32) then
      some ((0 : Int32), s2)
    else
      if a2 < (0 : Int32) then
        some ((0 : Int32), s2)
      else
        if (23 : Int32) < a2 then
          some ((0 : Int32), s2)
        else
          gd (inb ((4 : Int32) * a1) 92) <|
          if a2 ≤ (s2 2 (Int32.toNatClampNeg ((4 : Int32) * a1))) then
            gd (inb ((4 : Int32) * a1) 92) <|
            if a2 = (s2 2 (Int32.toNatClampNeg ((4 : Int32) * a1))) then
              if (a2 - a2 / (4 : Int32) * (4 : Int32)) ≤ (0 : Int32) then
                if a2 = (8 : Int32) then
                  bd (f_Mod_opens s2) fun r93 s92 =>
                  if r93 < (2 : Int32) then
                    some ((0 : Int32), s92)
                  else
                    bd (f_Mod_ready s92) fun r96 s95 =>
                    if r96 = (0 : Int32) then
                      some ((0 : Int32), s95)
                    else
                      bd (f_Mod_take (((4 : Int32) * a1) + (3 : Int32)) s95) fun r99 s98 =>
                      gd (inb r99 23) <|
                      nm (up2 s98 3 (Int32.toNatClampNeg r99) (vp_nar .boolean (1 : Int32))) fun s101 =>
                      bd (f_Mod_cell a1 (a2 / (4 : Int32)) s101) fun r104 s103 =>
                      bd (f_Mod_take r104 s103) fun r107 s106 =>
                      wrI a1 a2 a3 s106
                else
                  bd (f_Mod_opens s2) fun r33 s32 =>
                  if r33 < (1 : Int32) then
                    some ((0 : Int32), s32)
                  else
                    bd (f_Mod_ready s32) fun r36 s35 =>
                    if r36 = (0 : Int32) then
                      some ((0 : Int32), s35)
                    else
                      bd (f_Mod_cell a1 (a2 / (4 : Int32)) s35) fun r39 s38 =>
                      bd (f_Mod_take r39 s38) fun r42 s41 =>
                      wrI a1 a2 a3 s41
              else
                bd (f_Mod_opens s2) fun r159 s158 =>
                if r159 < (0 : Int32) then
                  some ((0 : Int32), s158)
                else
                  bd (f_Mod_ready s158) fun r162 s161 =>
                  if r162 = (0 : Int32) then
                    some ((0 : Int32), s161)
                  else
                    wrG a1 a2 a3 s161
            else
              bd (f_Mod_opens s2) fun r8 s7 =>
              if r8 < (0 : Int32) then
                some ((0 : Int32), s7)
              else
                bd (f_Mod_ready s7) fun r11 s10 =>
                if r11 = (0 : Int32) then
                  some ((0 : Int32), s10)
                else
                  wrT a1 a2 a3 s10
          else
            some ((0 : Int32), s2)) := rfl
theorem btt {a b : Nat} (ha : a < 2 ^ 31) (hb : b < 2 ^ 31) (s : tj_S) : f_X_blocksToTake (nI a) (nI b) s = some (nI (if a = b then if a % 4 = 0 then if a = 8 then 2 else 1 else 0 else 0), s) := by
  unfold f_X_blocksToTake
  by_cases q : a = b
  · rw [if_pos (by rw [q]), if_pos q, md4 ha, dv4 ha]
    by_cases q2 : a % 4 = 0
    · rw [if_pos (show nI (a % 4) = 0 from by rw [q2]; rfl), if_pos q2]
      by_cases q3 : a = 8
      · rw [if_pos (show nI (a / 4) = 2 from by rw [q3]; rfl), if_pos q3]; rfl
      · rw [if_neg (by rw [show (nI (a / 4) = (2 : Int32)) = (a / 4 = 2) from eq_n (i := 2) (by omega) (by omega)]; omega), if_neg q3]; rfl
    · rw [if_neg (nI_ne0 (by omega) (by omega)), if_neg q2]; rfl
  · rw [if_neg (by rw [eq_n ha hb]; exact q), if_neg q]; rfl
