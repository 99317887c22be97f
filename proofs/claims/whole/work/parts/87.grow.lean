/-- the length is set and the inode joined -/
theorem wg_len {s t s1 t1 : tj_S} {d f L : Nat} {e : Nat → Nat} {rf rf1 : Nat → Nat → Nat} (hf : f < 6) (hm : mR s1 t1 (t1 3) d e rf1) (hs : sMm s s1) (ht : tMm t t1) (h4 : t1 4 = t 4) (hl : ∀ g, g < 6 → g ≠ f → t1 2 (4 * g) = t 2 (4 * g)) (h7 : ∀ g, g ≠ f → rf1 g = rf g) (h8 : ∀ i, i < 6 → (4 * i < L → rf1 f i ≠ 0) ∧ (L ≤ 4 * i → rf1 f i = 0)) (h9 : 8 < L → rf1 f 6 ≠ 0) (h10' : L ≤ 8 → rf1 f 6 = 0) (h11 : ∀ k, k < 7 → rf f k ≠ 0 → rf1 f k = rf f k) (h13 : ∀ k, k < 6 → rf1 f k ≠ 0 → rf f k = rf1 f k ∨ bt (t 0 16) (rf1 f k - 7) = false)
    (h14 : ∀ b, (b < 7 ∨ (b ≠ 0 ∧ ∃ g, g < 6 ∧ rf1 g 6 = b)) → b ≠ f → t1 3 b ≠ 1 → (b < 7 ∨ (b ≠ 0 ∧ ∃ g, g < 6 ∧ rf g 6 = b)) ∧ t 3 b ≠ 1 ∧ ∀ w, w < 4 → t1 2 (4 * b + w) = t 2 (4 * b + w)) (h15 : ∀ b, b < 23 → t1 3 b = 1 → t 3 b = 1 ∨ b = 6 ∨ b = rf1 f 6) (h16 : t 3 6 = 1 → t1 3 6 = 1) :
    wG s t f L rf (up2 (up2 s1 11 (4 * f) (nI L)) 10 3 (s1 10 3 ||| ((1 : Int32) <<< (nI f &&& 31)))) (up2 (up2 t1 2 (4 * f) (nI L)) 3 f 1) d e rf1 := by
  obtain ⟨g1, g2, g3, g4, g5, g6, g7⟩ := hm
  generalize hs3 : up2 (up2 s1 11 (4 * f) (nI L)) 10 3 (s1 10 3 ||| ((1 : Int32) <<< (nI f &&& 31))) = s3
  generalize ht3 : up2 (up2 t1 2 (4 * f) (nI L)) 3 f 1 = t3
  have k3 : t3 3 = upd (t1 3) f 1 := by rw [← ht3, up2_eq, up2_ne (by omega)]
  have k2 : t3 2 = upd (t1 2) (4 * f) (nI L) := by rw [← ht3, up2_ne (by omega), up2_eq]
  have ko : ∀ a, a ≠ 2 → a ≠ 3 → t3 a = t1 a := fun a x y => by rw [← ht3, up2_ne y, up2_ne x]
  have l103 : s3 10 3 = s1 10 3 ||| ((1 : Int32) <<< (nI f &&& 31)) := by rw [← hs3, up2_at]
  have l10 : ∀ i, i ≠ 3 → s3 10 i = s1 10 i := fun i hi => by rw [← hs3, up2_o hi, up2_ne (by omega)]
  have l11 : s3 11 = upd (s1 11) (4 * f) (nI L) := by rw [← hs3, up2_ne (by omega), up2_eq]
  have lo : ∀ a, a ≠ 10 → a ≠ 11 → s3 a = s1 a := fun a x y => by rw [← hs3, up2_ne x, up2_ne y]
  refine ⟨⟨fun i hi => ?_, ?_, ?_, ?_, ?_, g6, ?_⟩, sMm_t hs ⟨fun a x y z => lo a x y, l10 5 (by omega)⟩, tMm_t ht ⟨fun a x y z v w => ko a y z, fun i hi => by rw [ko 0 (by omega) (by omega)]⟩, by rw [ko 4 (by omega) (by omega)]; exact h4, fun g hg q => ?_, by rw [k2, upd_at], h7, h8, h9, h10', h11, h13, fun b hb hj => ?_, fun b hb q => ?_, fun q => ?_⟩
  · rw [l11, k2]
    by_cases q : i = 4 * f
    · rw [q, upd_at, upd_at]
    · rw [upd_o q, upd_o q]; exact g1 i hi
  · rw [k3, l103]; exact mk_set (by omega) g2
  · rw [l10 4 (by omega), ko 4 (by omega) (by omega)]; exact g3
  · unfold rDir at *; rw [l10 2 (by omega), lo 12 (by omega) (by omega), ko 0 (by omega) (by omega), ko 5 (by omega) (by omega)]; exact g4
  · rw [k2]
    exact G_frame g5 (fun g hg j j1 j2 => upd_o (by omega)) (fun g hg q j hj => upd_o (by have := ((g5 g hg).2.2.2.1 6 (by omega)).2 q; omega))
  · rw [k2, upd_o (by omega)]; exact g7
  · rw [k2, upd_o (by omega)]; exact hl g hg q
  · have hbf : b ≠ f := fun q => hj (by rw [k3, q, upd_at])
    rw [k3, upd_o hbf] at hj
    obtain ⟨u1, u2, u3⟩ := h14 b hb hbf hj
    exact ⟨u1, u2, fun w hw => by rw [k2, upd_o (by omega)]; exact u3 w hw⟩
  · rw [k3] at q
    by_cases y : b = f
    · exact Or.inr (Or.inr (Or.inl y))
    · rw [upd_o y] at q
      rcases h15 b hb q with u | u | u
      · exact Or.inl u
      · exact Or.inr (Or.inl u)
      · exact Or.inr (Or.inr (Or.inr u))
  · rw [k3, upd_o (by omega)]; exact h16 q
/-- the reference sets the length, joins the inode, and goes on -/
def wrG (a1 a2 a3 : Int32) (s41 : tj_S) : Option (Int32 × tj_S) :=
  gd (inb ((4 : Int32) * a1) 92) <|
  nm (up2 s41 2 (Int32.toNatClampNeg ((4 : Int32) * a1)) (a2 + (1 : Int32))) fun s44 =>
  gd (inb a1 23) <|
  nm (up2 s44 3 (Int32.toNatClampNeg a1) (vp_nar .boolean (1 : Int32))) fun s46 =>
  wrT a1 a2 a3 s46
def wrI (a1 a2 a3 : Int32) (s41 : tj_S) : Option (Int32 × tj_S) :=
  if a2 ≤ (7 : Int32) then
    wrG a1 a2 a3 s41
  else
    gd (inb (((4 : Int32) * a1) + (3 : Int32)) 92) <|
    gd (inb (s41 2 (Int32.toNatClampNeg (((4 : Int32) * a1) + (3 : Int32)))) 23) <|
    nm (up2 s41 3 (Int32.toNatClampNeg (s41 2 (Int32.toNatClampNeg (((4 : Int32) * a1) + (3 : Int32))))) (vp_nar .boolean (1 : Int32))) fun s66 =>
    wrG a1 a2 a3 s66
theorem wrG_eq {f o : Nat} (hf : f < 6) (v : Int32) (t : tj_S) : wrG (nI f) (nI o) v t = wrT (nI f) (nI o) v (up2 (up2 t 2 (4 * f) (nI (o + 1))) 3 f 1) := by
  unfold wrG
  rw [lnM, gd_in (by omega) (by omega), nm_s, gd_in (by omega) (by omega), nm_s, cl_n (by omega), cl_n (by omega), vn01 (Or.inr rfl), nI_1]
theorem wrI_eq {f o ix : Nat} (hf : f < 6) (ho : o < 24) (v : Int32) (t : tj_S) (h : 8 ≤ o → t 2 (4 * f + 3) = nI ix ∧ ix < 23) : wrI (nI f) (nI o) v t = wrG (nI f) (nI o) v (tTl t ix (decide (8 ≤ o))) := by
  unfold wrI
  by_cases q : 8 ≤ o
  · obtain ⟨h1, h2⟩ := h q
    rw [if_neg (by rw [show (nI o ≤ (7 : Int32)) = (o ≤ 7) from le_n (i := 7) (by omega) (by omega)]; omega), show (4 * nI f + 3 : Int32) = nI (4 * f + 3) from adr2 (w := 3), gd_in (by omega) (by omega), cl_n (by omega), h1, gd_in h2 (by omega), nm_s, cl_n (by omega), vn01 (Or.inr rfl), decide_eq_true q]; rfl
  · rw [if_pos (by rw [show (nI o ≤ (7 : Int32)) = (o ≤ 7) from le_n (i := 7) (by omega) (by omega)]; omega), decide_eq_false q]; rfl
theorem glX {f n : Nat} (hf : f < 6) (u : tj_S) : (bv (f_Mem_setWord (nI f) (0 : Int32) (nI n) u) fun s8 => bv (f_Mem_join (nI f) s8) fun s10 => some s10) = some (up2 (up2 u 11 (4 * f) (nI n)) 10 3 (u 10 3 ||| ((1 : Int32) <<< (nI f &&& 31)))) := by
  rw [show (0 : Int32) = nI 0 from rfl, sw_spec (by omega) (by omega), bv_s, jn_spec (by omega), bv_s, up2_ne (show 10 ≠ 11 by omega), Nat.add_zero]
section wr
variable {s t : tj_S} {c o d f p : Nat} {z ab e lenC len : Nat → Nat} {rfC rf : Nat → Nat → Nat}
theorem sMm_r (s : tj_S) : sMm s s := ⟨fun _ _ _ _ => rfl, rfl⟩
theorem tMm_r (t : tj_S) : tMm t t := ⟨fun _ _ _ _ _ _ => rfl, fun _ _ => rfl⟩
theorem wr_A (hR : rPR s t c o d z ab e lenC len rfC rf) (hup : t 0 12 = 1) (hf : f < 6) (hp : p < len f) (h12 : ndv (cn (t 3) 23) (cn (t 4) 23) ≤ 12) (v : Int32) : ∃ (s2 t2 : tj_S), f_X_setDataWord (nI f) (nI p) v s = some s2 ∧ wrT (nI f) (nI p) v t = some (1, t2) ∧ pRel s2 t2 := by
  have hF := (hR.2 hup).1.1 f hf
  refine wr_end (rf1 := rf) (L := len f) hR hup hf hp hF.1 h12 ⟨mR_of hR hup, sMm_r s, tMm_r t, rfl, fun _ _ _ => rfl, hF.2.1, fun _ _ => rfl, fun i hi => ⟨fun q => ?_, (hF.2.2.2.2.2.1 i hi).2⟩, fun q => ?_, hF.2.2.2.2.2.2.2, fun _ _ _ => rfl, fun _ _ _ => Or.inl rfl, fun b hb hj => ⟨hb, hj, fun _ _ => rfl⟩, fun _ _ q => Or.inl q, fun q => q⟩ v
  · have := ((hF.2.2.2.2.2.1 i hi).1 q).1; omega
  · have := (hF.2.2.2.2.2.2.1 q).1; omega
theorem wr_B (hR : rPR s t c o d z ab e lenC len rfC rf) (hup : t 0 12 = 1) (hf : f < 6) (hp : p = len f) (hp24 : p < 24) (h4 : p % 4 ≠ 0) (h12 : ndv (cn (t 3) 23) (cn (t 4) 23) ≤ 12) (v : Int32) : ∃ (s1 s2 t2 : tj_S), f_X_growByOne (nI f) (nI p) s = some s1 ∧ f_X_setDataWord (nI f) (nI p) v s1 = some s2 ∧ wrG (nI f) (nI p) v t = some (1, t2) ∧ pRel s2 t2 := by
  have hF := (hR.2 hup).1.1 f hf
  have ex : f_X_growByOne (nI f) (nI p) s = some (up2 (up2 s 11 (4 * f) (nI (p + 1))) 10 3 (s 10 3 ||| ((1 : Int32) <<< (nI f &&& 31)))) := by
    unfold f_X_growByOne
    rw [md4 (by omega), if_neg (nI_ne0 (by omega) (by omega)), nI_1, glX hf]
  obtain ⟨s2, t2, w1, w2, w3⟩ := wr_end (p := p) (rf1 := rf) (L := p + 1) hR hup hf (by omega) (by omega) h12 (wg_len (rf := rf) hf (mR_of hR hup) (sMm_r s) (tMm_r t) rfl (fun _ _ _ => rfl) (fun _ _ => rfl) (fun i hi => ⟨fun q => by have := ((hF.2.2.2.2.2.1 i hi).1 (by omega)).1; omega, fun q => (hF.2.2.2.2.2.1 i hi).2 (by omega)⟩) (fun q => by have := (hF.2.2.2.2.2.2.1 (by omega)).1; omega) (fun q => hF.2.2.2.2.2.2.2 (by omega)) (fun _ _ _ => rfl) (fun _ _ _ => Or.inl rfl) (fun b hb _ hj => ⟨hb, hj, fun _ _ => rfl⟩) (fun _ _ q => Or.inl q) (fun q => q)) v
  exact ⟨_, s2, t2, ex, w1, by rw [wrG_eq hf]; exact w2, w3⟩
theorem wr_C (hR : rPR s t c o d z ab e lenC len rfC rf) (hup : t 0 12 = 1) (hf : f < 6) (hp : p = len f) (hp24 : p < 24) (h4 : p % 4 = 0) (h8 : p ≠ 8) (hop : 0 < popN (opB rf (t 0 16)) 16) (h12 : ndv (cn (t 3) 23) (cn (t 4) 23) ≤ 12) (v : Int32) : ∃ (s1 s2 t2 : tj_S), f_X_growByOne (nI f) (nI p) s = some s1 ∧ f_X_setDataWord (nI f) (nI p) v s1 = some s2 ∧ (bd (f_Mod_cell (nI f) (nI p / (4 : Int32)) t) fun r39 s38 => bd (f_Mod_take r39 s38) fun r42 s41 => wrI (nI f) (nI p) v s41) = some (1, t2) ∧ pRel s2 t2 := by
  have hU := hR.2 hup
  have r1 := hU.1
  have hF := r1.1 f hf
  have hm := mR_of hR hup
  have hG := hm.2.2.2.2.1
  have n6 : 2 ≤ p / 4 → rf f 6 ≠ 0 := fun q => by have := (hF.2.2.2.2.2.2.1 (by omega)).1; omega
  have hz : rf f (p / 4) = 0 := (hF.2.2.2.2.2.1 (p / 4) (by omega)).2 (by omega)
  obtain ⟨b, s1, t1, k1, k2, k3, k4, k5, k6, k7, k8, k9, k10, k11, k12⟩ := ad_spec hm hR.1.2.2.2.1.2.2 hop hf (i := p / 4) (by omega) hz n6
  have r6 : ∀ g, upR rf f (p / 4) b g 6 = rf g 6 := fun g => upR_o (by omega)
  have e8 : decide (2 ≤ p / 4) = decide (8 ≤ p) := decide_eq_decide.mpr (by omega)
  rw [e8] at k7
  have ex : f_X_growByOne (nI f) (nI p) s = some (up2 (up2 s1 11 (4 * f) (nI (p + 1))) 10 3 (s1 10 3 ||| ((1 : Int32) <<< (nI f &&& 31)))) := by
    unfold f_X_growByOne f_X_addDataBlock
    rw [md4 (by omega), h4, if_pos (show nI 0 = 0 from rfl), dv4 (by omega), if_neg (by rw [show (nI (p / 4) = (2 : Int32)) = (p / 4 = 2) from eq_n (i := 2) (by omega) (by omega)]; omega), k5, bv_s, nI_1, glX hf]
  have hix : 8 ≤ p → t1 2 (4 * f + 3) = nI (rf f 6) ∧ rf f 6 < 23 := fun q => by
    have := (k7.2.2.2.2.1 f hf).2.2.1
    rw [r6] at this
    exact ⟨this, ((hG f hf).2.2.2.1 6 (by omega)).1⟩
  have em : (bd (f_Mod_cell (nI f) (nI p / (4 : Int32)) t) fun r39 s38 => bd (f_Mod_take r39 s38) fun r42 s41 => wrI (nI f) (nI p) v s41) = wrT (nI f) (nI p) v (up2 (up2 (tTl t1 (rf f 6) (decide (8 ≤ p))) 2 (4 * f) (nI (p + 1))) 3 f 1) := by
    rw [dv4 (by omega), ce_spec (rf := rf) hf (by omega) (fun _ => (hG f hf).2.2.1), bd_s, k6, bd_s, wrI_eq hf hp24 v t1 hix, wrG_eq hf]
  have j3 : tTl t1 (rf f 6) (decide (8 ≤ p)) 3 = jx (upd (t 3) 6 1) (rf f 6) (decide (8 ≤ p)) := by rw [tTl_3, k8]
  have hne6 : ∀ g, g < 6 → rf g 6 ≠ 0 → rf g 6 ≠ b := fun g hg _ y => k3 ⟨g, hg, 6, by omega, y⟩
  have cin : cel rf f (p / 4) / 4 = f ∨ (8 ≤ p ∧ cel rf f (p / 4) / 4 = rf f 6) := by
    unfold cel
    by_cases q : p / 4 < 2
    · rw [if_pos q]; exact Or.inl (by omega)
    · rw [if_neg q]; exact Or.inr ⟨by omega, by omega⟩
  have i7 : 8 ≤ p → 7 ≤ rf f 6 := fun q => (hF.2.2.2.2.2.2.1 (by omega)).1
  have hwG : wG s t f (p + 1) rf (up2 (up2 s1 11 (4 * f) (nI (p + 1))) 10 3 (s1 10 3 ||| ((1 : Int32) <<< (nI f &&& 31)))) (up2 (up2 (tTl t1 (rf f 6) (decide (8 ≤ p))) 2 (4 * f) (nI (p + 1))) 3 f 1) d e (upR rf f (p / 4) b) := by
    refine wg_len (s := s) (t := t) (rf := rf) (s1 := s1) (t1 := tTl t1 (rf f 6) (decide (8 ≤ p))) hf ?_ k11 ?_ (by rw [tTl_o (by omega)]; exact k9) (fun g hg q => ?_) (fun g q => ?_) (fun i hi => ⟨fun q => ?_, fun q => ?_⟩) (fun q => ?_) (fun q => ?_) (fun k hk q => ?_) (fun k hk q => ?_) (fun b1 hb1 hbf hj => ?_) (fun b1 hb1 q => ?_) (fun q => ?_)
    · obtain ⟨m1, m2, m3, m4, m5, m6, m7⟩ := k7
      refine ⟨by rw [tTl_o (by omega)]; exact m1, by rw [j3]; exact m2, by rw [tTl_o (by omega)]; exact m3, ?_, by rw [tTl_o (by omega)]; exact m5, m6, by rw [tTl_o (by omega)]; exact m7⟩
      unfold rDir at *; rw [tTl_o (by omega), tTl_o (by omega)]; exact m4
    · exact tMm_t k12 ⟨fun a x y z v w => tTl_o z, fun i hi => by rw [tTl_o (by omega)]⟩
    · rw [tTl_o (by omega)]
      refine k10 _ (by omega) (fun y => ?_) (by omega)
      rcases cin with y2 | ⟨y1, y2⟩
      · omega
      · have := i7 y1; omega
    · funext j; exact upR_o (by omega)
    · by_cases y : i = p / 4
      · rw [y, upR_at]; omega
      · rw [upR_o (by omega)]
        have := ((hF.2.2.2.2.2.1 i hi).1 (by omega)).1; omega
    · rw [upR_o (by omega)]; exact (hF.2.2.2.2.2.1 i hi).2 (by omega)
    · rw [r6]; exact n6 (by omega)
    · rw [r6]; exact hF.2.2.2.2.2.2.2 (by omega)
    · rw [upR_o (fun y => q (by rw [y.2]; exact hz))]
    · by_cases y : k = p / 4
      · rw [y, upR_at]; exact Or.inr k4
      · rw [upR_o (by omega)]; exact Or.inl rfl
    · rw [j3] at hj
      have nt : ¬ (decide (8 ≤ p) = true ∧ b1 = rf f 6) := fun y => hj (by unfold jx; rw [if_pos y])
      have hj2 : upd (t 3) 6 1 b1 ≠ 1 := by unfold jx at hj; rw [if_neg nt] at hj; exact hj
      have n6b : b1 ≠ 6 := fun y => hj2 (by rw [y, upd_at])
      rw [upd_o n6b] at hj2
      have hb2 : b1 < 7 ∨ (b1 ≠ 0 ∧ ∃ g, g < 6 ∧ rf g 6 = b1) := by
        rcases hb1 with y | ⟨y, g, hg, y2⟩
        · exact Or.inl y
        · exact Or.inr ⟨y, g, hg, by rw [← r6 g]; exact y2⟩
      refine ⟨hb2, hj2, fun w hw => ?_⟩
      rw [tTl_o (by omega)]
      refine k10 _ (by omega) (fun y => ?_) (fun y => ?_)
      · rcases cin with y2 | ⟨y1, y2⟩
        · omega
        · exact nt ⟨decide_eq_true y1, by omega⟩
      · rcases hb2 with y2 | ⟨y2, g, hg, y3⟩
        · omega
        · exact hne6 g hg (by omega) (by omega)
    · rw [j3] at q
      unfold jx at q
      rw [r6]
      by_cases y : decide (8 ≤ p) = true ∧ b1 = rf f 6
      · exact Or.inr (Or.inr y.2)
      · rw [if_neg y] at q
        by_cases y2 : b1 = 6
        · exact Or.inr (Or.inl y2)
        · rw [upd_o y2] at q; exact Or.inl q
    · rw [j3]; unfold jx
      split
      · rfl
      · rw [upd_at]
  obtain ⟨s2, t2, w1, w2, w3⟩ := wr_end (p := p) hR hup hf (by omega) (by omega) h12 hwG v
  exact ⟨_, s2, t2, ex, w1, by rw [em]; exact w2, w3⟩
end wr
