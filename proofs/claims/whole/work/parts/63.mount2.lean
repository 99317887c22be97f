section mt
variable {c o d : Nat} {z ab e lenC len : Nat → Nat} {rfC rf : Nat → Nat → Nat}
theorem mt_L (y : Int32) (kx km : Int32 → tj_S → Option (Int32 × tj_S)) : ∀ m i n1 n2 (s t : tj_S), i + m = c → m < n1 → m < n2 → rPR s t c o d z ab e lenC len rfC rf → qH t c false i 0 →
    ∃ (s1 t1 : tj_S), (f_Disk_recover_L2 kx n1 (nI i) s = some (0, s1) ∧ f_Mod_mount_L20 y km n2 (nI i) t = some (-2, t1) ∧ pRel s1 t1) ∨
      (f_Disk_recover_L2 kx n1 (nI i) s = kx (nI c) s1 ∧ f_Mod_mount_L20 y km n2 (nI i) t = km (nI c) t1 ∧ rPR s1 t1 c o d z ab e lenC len rfC rf ∧ qH t1 c false c 0 ∧ t1 0 12 = t 0 12) := by
  intro m
  induction m with
  | zero =>
    intro i n1 n2 s t h hn1 hn2 hR hq
    obtain ⟨n1, rfl⟩ : ∃ n, n1 = n + 1 := ⟨n1 - 1, by omega⟩
    obtain ⟨n2, rfl⟩ : ∃ n, n2 = n + 1 := ⟨n2 - 1, by omega⟩
    have : i = c := by omega
    subst this
    have hL := hR.1.2.2.2.2.2.1
    rw [f_Disk_recover_L2, f_Mod_mount_L20, hL.2.2.1, hL.2.2.2.1, if_pos (Int32.le_refl _), if_pos (Int32.le_refl _)]
    exact ⟨s, t, Or.inr ⟨rfl, rfl, hR, hq, rfl⟩⟩
  | succ m ih =>
    intro i n1 n2 s t h hn1 hn2 hR hq
    obtain ⟨n1, rfl⟩ : ∃ n, n1 = n + 1 := ⟨n1 - 1, by omega⟩
    obtain ⟨n2, rfl⟩ : ∃ n, n2 = n + 1 := ⟨n2 - 1, by omega⟩
    have hL := hR.1.2.2.2.2.2.1
    have hc := hL.1
    obtain ⟨y0, y1, y2⟩ := cr_spec hL (k := i) (by omega)
    rw [f_Disk_recover_L2, f_Mod_mount_L20, hL.2.2.1, hL.2.2.2.1, if_neg (by rw [le_n (by omega) (by omega)]; omega), if_neg (by rw [le_n (by omega) (by omega)]; omega), y1, bd_s]
    obtain ⟨s1, t1, hh⟩ := rp_L (K := i) (by omega) (fl := false) (y := y0) (fun x21 s22 => some ((1 : Int32), s22)) (fun x35 s36 => some ((1 : Int32), s36)) 23 0 100 100 s t (by omega) (by omega) (by omega) hR y2 hq
    rcases hh with ⟨h1, h2, h3⟩ | ⟨h1, h2, h3, h4, h5, h6, h7⟩
    · rw [show f_Disk_writeCopiesHome (nI i) y0 s = some (0, s1) from h1, bd_s, if_pos rfl, show f_Mod_replay (nI i) (0 : Int32) t = some (0, t1) from h2, bd_s, if_pos rfl]
      exact ⟨s1, t1, Or.inl ⟨rfl, rfl, h3⟩⟩
    · rw [show f_Disk_writeCopiesHome (nI i) y0 s = some (1, s1) from h1, bd_s, if_neg h10, show f_Mod_replay (nI i) (0 : Int32) t = some (1, t1) from h2, bd_s, if_neg h10, nm_s, nm_s, nI_s]
      obtain ⟨s2, t2, hh⟩ := ih (i + 1) n1 n2 s1 t1 (by omega) (by omega) (by omega) h3 h4
      refine ⟨s2, t2, ?_⟩
      rcases hh with ⟨g1, g2, g3⟩ | ⟨g1, g2, g3, g4, g6⟩
      · exact Or.inl ⟨g1, g2, g3⟩
      · exact Or.inr ⟨g1, g2, g3, g4, by rw [g6, h6]⟩
theorem mt_home {s t : tj_S} (hR : rPR s t c o d z ab e lenC len rfC rf) (hq : qH t c false c 0) : fsR (t 1) lenC rfC := by
  have hf := hR.1.2.2.2.2.2.2
  refine fsR_meta hf (fun b hb j hj => ?_)
  have hb23 : b < 23 := by
    rcases hb with h | ⟨f, hf1, h8, h⟩
    · omega
    · rw [← h]; exact fsF_lt (hf.1 f hf1) 6 (by omega)
  rw [rci_at hj, rcv_all hb23 hj hq c (Nat.le_refl _) (fun j h1 h2 => absurd h2 (by omega))]
end mt
def mkM (a : Int32) : Int32 → tj_S → Option (Int32 × tj_S) := fun _ s13 =>
  if (s13 0 10) ≤ (0 : Int32) then
    nm ((s13 0 10)) fun x14 => mtM a x14 s13
  else
    bd (f_Mod_spend s13) fun r50 s49 =>
    if r50 = (0 : Int32) then
      some ((-2 : Int32), s49)
    else
      nm ((s49 0 10)) fun x51 => mtM a x51 s49
theorem mm_eq (a : Int32) (t : tj_S) : f_Mod_mount a t = if (t 0 12) = (0 : Int32) then (if a < (0 : Int32) then some ((-1 : Int32), t) else if a ≤ (2 : Int32) then f_Mod_mount_L20 a (mkM a) 100 (0 : Int32) t else some ((-1 : Int32), t)) else some ((-1 : Int32), t) := rfl
theorem q_mount : sim_mount pRel := by
  intro a s t h
  obtain ⟨c, o, d, z, ab, e, lC, rC, hB, hU⟩ := id h
  rw [mm_eq]
  unfold f_X_mount
  rcases up_cases hB.1 with ⟨e1, e2⟩ | ⟨e1, e2, e3⟩
  · rw [if_pos e1, if_pos e2]
    by_cases h1 : a < 0
    · rw [if_pos h1, if_pos h1]; exact ⟨_, _, _, rfl, rfl, h⟩
    rw [if_neg h1, if_neg h1]
    by_cases h2 : a ≤ 2
    · rw [if_pos h2, if_pos h2, nm_s]
      obtain ⟨p, hp, rfl⟩ := nI_of h1
      have hp3 : p < 3 := by
        rw [show (nI p ≤ (2 : Int32)) = (p ≤ 2) from le_n (i := 2) hp (by omega)] at h2; omega
      have hR : rPR s t c o d z ab e lC (fun _ => 0) rC (fun _ _ => 0) := ⟨hB, fun q => by rw [e2] at q; exact absurd q (by decide)⟩
      have hc := hB.2.2.2.2.2.1.1
      obtain ⟨s1, t1, hh⟩ := mt_L (nI p) (fun x14 s15 => bd (f_Disk_dropOldest (s15 4 6) s15) fun r18 s17 => gd (isb r18) <| some (r18, s17)) (mkM (nI p)) c 0 100 100 s t (by omega) (by omega) (by omega) hR (fun k b hd => by rcases hd with q | q <;> omega)
      have hcnt : s 4 6 = nI c := hB.2.2.2.2.2.1.2.2.1
      rcases hh with ⟨g1, g2, g3⟩ | ⟨g1, g2, g3, g4, g6⟩
      · rw [show f_Disk_recover s = some (0, s1) from g1, bd_s, if_pos rfl, show f_Mod_mount_L20 (nI p) (mkM (nI p)) 100 (0 : Int32) t = some (-2, t1) from g2]
        exact ⟨_, _, _, rfl, rfl, g3⟩
      · have hL1 := g3.1.2.2.2.2.2.1
        have hfs := mt_home g3 g4
        rw [show f_Disk_recover s = _ from g1, show f_Mod_mount_L20 (nI p) (mkM (nI p)) 100 (0 : Int32) t = _ from g2]
        unfold mkM f_Disk_dropOldest
        rw [hL1.2.2.1, hL1.2.2.2.1, hcnt]
        by_cases q0 : c = 0
        · subst q0
          rw [if_pos (show nI 0 = 0 from rfl), bd_s, gd_t (show isb 1 = true from rfl), bd_s, if_neg h10, if_pos (show nI 0 ≤ 0 from by decide), nm_s]
          obtain ⟨s2, t2, w1, w2, w3⟩ := mt_end (s := s1) (t := t1) (a := nI p) rfl hp3 (o := o) (P := ab 0) hL1.2.1 g3.1.2.2.1.1 g3.1.1.2.1 g3.1.1.2.2.1 hL1.2.2.1 hL1.2.2.2.2.1 hL1.2.2.2.2.2.1 hL1.2.2.2.2.2.2.1 hfs (nI 0)
          rw [w1, w2]; exact ⟨_, _, _, rfl, rfl, w3⟩
        · rw [if_neg (nI_ne0 (by omega) (by omega)), if_neg (nI_nle (by omega) (by omega))]
          obtain ⟨r, s2, t2, p1, p2, hp2, hs2, ht2, hc2⟩ := sp_spec g3.1.1
          have hB2 := rB_pow hs2 ht2 hp2 g3.1
          rw [p1, p2, bd_s, bd_s]
          rcases hc2 with ⟨rfl, hc2⟩ | ⟨rfl, hc2⟩
          · rw [if_pos rfl, if_pos rfl, bd_s, gd_t (show isb 0 = true from rfl), bd_s, if_pos rfl]
            exact ⟨_, _, _, rfl, rfl, c, o, d, z, ab, e, lC, rC, hB2, fun q => by rw [hc2] at q; exact absurd q (by decide)⟩
          · have hL2 := hB2.2.2.2.2.2.1
            rw [if_neg h10, if_neg h10, fo_spec hL2.2.2.2.2.1 hL2.2.2.1 hL2.2.1 (Nat.le_refl c) hc, bv_s, bd_s, gd_t (show isb 1 = true from rfl), bd_s, if_neg h10, nm_s, hL2.2.2.2.1, Nat.sub_self]
            generalize hs3 : up2 (up2 s2 4 5 (nI ((o + c) % 8))) 4 6 (nI 0) = s3
            have n3 : ∀ a, a ≠ 4 → s3 a = s2 a := fun a ha => by rw [← hs3, up2_ne ha, up2_ne ha]
            obtain ⟨s4, t4, w1, w2, w3⟩ := mt_end (s := s3) (t := t2) (a := nI p) rfl hp3 (o := (o + c) % 8) (P := ab c) (Nat.mod_lt _ (by omega)) (fun i hi => by rw [n3 3 (by omega)]; exact hB2.2.2.1.1 i hi) (by rw [n3 1 (by omega)]; exact hB2.1.2.1) (by rw [n3 1 (by omega)]; exact hB2.1.2.2.1) (by rw [← hs3, up2_at]; rfl) (by rw [← hs3, up2_o (by omega), up2_at]) (by rw [← hs3, up2_o (by omega), up2_o (by omega)]; exact hL2.2.2.2.2.2.1) hL2.2.2.2.2.2.2.1 (by rw [ht2.1 1 (by omega)]; exact hfs) (nI c)
            rw [w1, w2]; exact ⟨_, _, _, rfl, rfl, w3⟩
    · rw [if_neg h2, if_neg h2]; exact ⟨_, _, _, rfl, rfl, h⟩
  · rw [if_neg e1, if_neg e2]; exact ⟨_, _, _, rfl, rfl, h⟩
