theorem q_rename : sim_rename pRel := by
  intro a b s t h
  obtain ⟨c, o, d, z, ab, e, lC, rC, hB, hU⟩ := id h
  unfold f_X_rename f_Mod_rename
  rcases up_cases hB.1 with ⟨e1, e2⟩ | ⟨e1, e2, e3⟩
  · exact ⟨_, _, _, if_pos e1, if_pos e2, h⟩
  obtain ⟨len, rf, hu⟩ := hU e3
  have hR : rPR s t c o d z ab e lC len rC rf := ⟨hB, fun _ => hu⟩
  rw [if_neg e1, if_neg e2]
  rcases fl_cases a s t with ⟨f1, f2⟩ | ⟨f, hf, rfl, f1, f2⟩
  · rw [f1, f2]; exact ⟨_, _, _, rfl, rfl, h⟩
  rw [f1, f2, bd_s, bd_s, if_neg h10, if_neg h10]
  rcases fl_cases b s t with ⟨f3, f4⟩ | ⟨g, hg, rfl, f3, f4⟩
  · rw [f3, f4]; exact ⟨_, _, _, rfl, rfl, h⟩
  rw [f3, f4, bd_s, bd_s, if_neg h10, if_neg h10]
  by_cases hfg : f = g
  · rw [if_pos (by rw [hfg]), if_pos (by rw [hfg])]; exact ⟨_, _, _, rfl, rfl, h⟩
  rw [if_neg (by rw [eq_n (by omega) (by omega)]; exact hfg), if_neg (by rw [eq_n (by omega) (by omega)]; exact hfg)]
  obtain ⟨r, s1, t1, w1, w2, w3⟩ := rd_spec hR e3
  rw [w1, w2, bd_s, bd_s]
  rcases w3 with ⟨rfl, w3⟩ | ⟨rfl, c1, o1, d1, z1, ab1, e4, l1, r1, v1, v2, v3, v4, v5, v6⟩
  · rw [if_pos rfl, if_pos rfl]; exact ⟨_, _, _, rfl, rfl, w3⟩
  obtain ⟨s2, t2, d2, e5, rf1, g1, g2, g3, g4, g5, g6, g7⟩ := sh_spec v1 v2 hg (n := 0) (by omega) v5
  rw [if_neg h10, if_neg h10, show (0 : Int32) = nI 0 from rfl, g1, g2, bv_s, bv_s]
  have r7 := (v1.2 v2).2.2.2.2.2.2.1
  obtain ⟨len1, hlen1⟩ : ∃ l : Nat → Nat, l = fun h => if h = g then 0 else len h := ⟨_, rfl⟩
  rw [← hlen1] at g3
  have lg : len1 g = 0 := by rw [hlen1]; exact if_pos rfl
  obtain ⟨u1, u2, u3, u4, u5, u6, u7, u8⟩ := id (g3.2 g7)
  have hm := mR_of g3 g7
  obtain ⟨m1, m2, m3, m4, m5, m6, m7⟩ := hm
  have G := u1.1
  have zg : ∀ i, i < 7 → rf1 g i = 0 := fun i hi => by
    obtain ⟨p0, p1, p2, p3, p4, p5, p6, p7⟩ := G g hg
    rcases Nat.lt_or_ge i 6 with y | y
    · exact (p5 i y).2 (by omega)
    · rw [show i = 6 by omega]; exact p7 (by omega)
  -- the class
  have cx := mvX_L hf hg hfg (fun x16 s17 => bv (f_Mem_join (nI f) s17) fun s19 => bv (f_Mem_join (nI g) s19) fun s21 => some s21) 4 0 95 s2 (by omega)
  have ex : f_Mem_moveInode (nI f) (nI g) s2 = some (up2 (up2 (st2 s2 11 (mvw (s2 11) f g 0)) 10 3 (s2 10 3 ||| ((1 : Int32) <<< (nI f &&& 31)))) 10 3 ((s2 10 3 ||| ((1 : Int32) <<< (nI f &&& 31))) ||| ((1 : Int32) <<< (nI g &&& 31)))) := by
    unfold f_Mem_moveInode
    rw [show (95 + 4 + 1 : Nat) = 100 from rfl] at cx
    rw [show (0 : Int32) = nI 0 from rfl, cx, jn_spec (by omega), bv_s, jn_spec (by omega), bv_s, up2_at, st2_ne (show 10 ≠ 11 by omega)]
  have cm := mvM_L hf hg hfg (fun x25 s26 => gd (inb (nI f) 23) <| nm (up2 s26 3 (Int32.toNatClampNeg (nI f)) (vp_nar .boolean (1 : Int32))) fun s28 => some ((1 : Int32), s28)) 4 0 95 t2 (by omega)
  rw [show (95 + 4 + 1 : Nat) = 100 from rfl] at cm
  rw [ex, bv_s, cm, gd_in (show f < 23 by omega) (by omega), nm_s, cl_n (by omega), vn01 (Or.inr rfl)]
  refine ⟨_, _, _, rfl, rfl, ?_⟩
  generalize hs3 : up2 (up2 (st2 s2 11 (mvw (s2 11) f g 0)) 10 3 (s2 10 3 ||| ((1 : Int32) <<< (nI f &&& 31)))) 10 3 ((s2 10 3 ||| ((1 : Int32) <<< (nI f &&& 31))) ||| ((1 : Int32) <<< (nI g &&& 31))) = s3
  generalize ht3 : up2 (st2 t2 2 (mvw (t2 2) f g 0)) 3 f 1 = t3
  have k3 : t3 3 = upd (t2 3) f 1 := by rw [← ht3, up2_eq, st2_ne (by omega)]
  have k2 : t3 2 = mvw (t2 2) f g 0 := by rw [← ht3, up2_ne (by omega), st2_eq]
  have ko : ∀ a, a ≠ 2 → a ≠ 3 → t3 a = t2 a := fun a x y => by rw [← ht3, up2_ne y, st2_ne x]
  have l103 : s3 10 3 = (s2 10 3 ||| ((1 : Int32) <<< (nI f &&& 31))) ||| ((1 : Int32) <<< (nI g &&& 31)) := by rw [← hs3, up2_at]
  have l10 : ∀ i, i ≠ 3 → s3 10 i = s2 10 i := fun i hi => by rw [← hs3, up2_o hi, up2_o hi, st2_ne (by omega)]
  have l11 : s3 11 = mvw (s2 11) f g 0 := by rw [← hs3, up2_ne (by omega), up2_ne (by omega), st2_eq]
  have lo : ∀ a, a ≠ 10 → a ≠ 11 → s3 a = s2 a := fun a x y => by rw [← hs3, up2_ne x, up2_ne x, st2_ne y]
  obtain ⟨rf2, hrf2⟩ : ∃ r : Nat → Nat → Nat, r = fun h => if h = g then rf1 f else if h = f then (fun _ => 0) else rf1 h := ⟨_, rfl⟩
  have Rg : rf2 g = rf1 f := by rw [hrf2]; exact if_pos rfl
  have Rf : ∀ i, rf2 f i = 0 := fun i => by rw [hrf2]; dsimp only; rw [if_neg hfg, if_pos rfl]
  have Ro : ∀ h, h ≠ g → h ≠ f → rf2 h = rf1 h := fun h x y => by rw [hrf2]; dsimp only; rw [if_neg x, if_neg y]
  obtain ⟨len2, hlen2⟩ : ∃ l : Nat → Nat, l = fun h => if h = g then len1 f else if h = f then 0 else len1 h := ⟨_, rfl⟩
  have Lg : len2 g = len1 f := by rw [hlen2]; exact if_pos rfl
  have Lf : len2 f = 0 := by rw [hlen2]; dsimp only; rw [if_neg hfg, if_pos rfl]
  have Lo : ∀ h, h ≠ g → h ≠ f → len2 h = len1 h := fun h x y => by rw [hlen2]; dsimp only; rw [if_neg x, if_neg y]
  -- where a reference stands
  have back : ∀ h, h < 6 → ∀ i, rf2 h i ≠ 0 → ∃ h1, h1 < 6 ∧ rf1 h1 i = rf2 h i ∧ ((h = g ∧ h1 = f) ∨ (h ≠ g ∧ h ≠ f ∧ h1 = h)) := fun h hh i q => by
    by_cases y : h = g
    · subst y; exact ⟨f, hf, by rw [Rg], Or.inl ⟨rfl, rfl⟩⟩
    · by_cases y2 : h = f
      · subst y2; exact absurd (Rf i) q
      · exact ⟨h, hh, by rw [Ro h y y2], Or.inr ⟨y, y2, rfl⟩⟩
  have forth : ∀ h, h < 6 → ∀ i, i < 7 → rf1 h i ≠ 0 → ∃ h1, h1 < 6 ∧ rf2 h1 i = rf1 h i := fun h hh i hi q => by
    by_cases y : h = f
    · subst y; exact ⟨g, hg, by rw [Rg]⟩
    · have y2 : h ≠ g := fun y2 => q (by rw [y2]; exact zg i hi)
      exact ⟨h, hh, by rw [Ro h y2 y]⟩
  have mo : ∀ j, j / 4 ≠ f → j / 4 ≠ g → mvw (t2 2) f g 0 j = t2 2 j := fun j x y => by unfold mvw; rw [if_neg (by omega), if_neg (by omega)]
  have mg : ∀ j, j < 4 → mvw (t2 2) f g 0 (4 * g + j) = t2 2 (4 * f + j) := fun j hj => by unfold mvw; rw [if_pos (by omega), show 4 * g + j - 4 * g = j by omega]
  have mf : ∀ j, j < 4 → mvw (t2 2) f g 0 (4 * f + j) = 0 := fun j hj => by unfold mvw; rw [if_neg (by omega), if_pos (by omega)]
  refine rPR_p (op_end (len1 := len2) (rf1 := rf2) (d1 := d2) (e1 := e5) g3 g7 ⟨fun a x y z => lo a x y, l10 5 (by omega)⟩ ⟨fun a x y z v w => ko a y z, fun i hi => by rw [ko 0 (by omega) (by omega)]⟩ (fun i hi => ?_) ?_ ?_ ?_ ?_ (fun j hj => ?_) (fun h k hh hk q => ?_) (fun b hb hj => ?_) (fun b hb => ?_) (fun ⟨b, hb, q⟩ => ?_) ?_)
  · rw [l11, k2]
    unfold mvw
    by_cases y : 4 * g + 0 ≤ i ∧ i < 4 * g + 4
    · rw [if_pos y, if_pos y]; exact m1 _ (by omega)
    · rw [if_neg y, if_neg y]
      split
      · rfl
      · exact m1 i hi
  · rw [l103, k3]
    refine mk_congr (fun x hx => ?_) (mk_set (by omega) (mk_set (show f < 23 by omega) m2))
    by_cases y : x = g
    · rw [y, upd_at, upd_o (fun q => hfg q.symm), g6]
    · rw [upd_o (show x ≠ g from y)]
  · rw [l10 4 (by omega), ko 4 (by omega) (by omega)]; exact m3
  · unfold rDir at *; rw [l10 2 (by omega), lo 12 (by omega) (by omega), ko 0 (by omega) (by omega), ko 5 (by omega) (by omega)]; exact m4
  · rw [k2]
    refine ⟨fun h hh => ?_, fun h h2 i j hh hh2 hi hj q y => ?_, fun i hi => ?_⟩
    · by_cases y : h = g
      · subst y
        rw [Lg, Rg]
        obtain ⟨p0, p1, p2, p3, p4, p5, p6, p7⟩ := G f hf
        refine ⟨p0, by have := mg 0 (by omega); rw [Nat.add_zero, Nat.add_zero] at this; rw [this]; exact p1, by rw [mg 1 (by omega)]; exact p2, by rw [mg 2 (by omega)]; exact p3, by rw [mg 3 (by omega)]; exact p4, p5, fun z => ⟨(p6 z).1, (p6 z).2.1, fun i hi => ?_⟩, p7⟩
        have := (p6 z).1
        rw [mo _ (by omega) (by omega)]; exact (p6 z).2.2 i hi
      · by_cases y2 : h = f
        · subst y2
          rw [Lf]
          refine ⟨by omega, by have := mf 0 (by omega); rw [Nat.add_zero] at this; rw [this]; rfl, by rw [mf 1 (by omega), Rf]; rfl, by rw [mf 2 (by omega), Rf]; rfl, by rw [mf 3 (by omega), Rf]; rfl, fun i hi => ⟨fun z => absurd z (by omega), fun _ => Rf i⟩, fun z => absurd z (by omega), fun _ => Rf 6⟩
        · rw [Lo h y y2, Ro h y y2]
          obtain ⟨p0, p1, p2, p3, p4, p5, p6, p7⟩ := G h hh
          refine ⟨p0, by rw [mo _ (by omega) (by omega)]; exact p1, by rw [mo _ (by omega) (by omega)]; exact p2, by rw [mo _ (by omega) (by omega)]; exact p3, by rw [mo _ (by omega) (by omega)]; exact p4, p5, fun z => ⟨(p6 z).1, (p6 z).2.1, fun i hi => ?_⟩, p7⟩
          have := (p6 z).1
          rw [mo _ (by omega) (by omega)]; exact (p6 z).2.2 i hi
    · obtain ⟨x1, hx1, ex1, cx1⟩ := back h hh i q
      obtain ⟨x2, hx2, ex2, cx2⟩ := back h2 hh2 j (by rw [← y]; exact q)
      have := m6 x1 x2 i j hx1 hx2 hi hj (by rw [ex1]; exact q) (by rw [ex1, ex2, y])
      refine ⟨?_, this.2⟩
      rcases cx1 with c1 | c1 <;> rcases cx2 with c2 | c2 <;> omega
    · rw [mo 24 (by omega) (by omega), u1.2.2 i hi]
      constructor
      · rintro ⟨y, h, hh, j, hj, q⟩
        obtain ⟨h1, hh1, q1⟩ := forth h hh j hj (by omega)
        exact ⟨y, h1, hh1, j, hj, by rw [q1, q]⟩
      · rintro ⟨y, h, hh, j, hj, q⟩
        obtain ⟨h1, hh1, q1, -⟩ := back h hh j (by omega)
        exact ⟨y, h1, hh1, j, hj, by rw [q1, q]⟩
  · obtain ⟨h, hh, k, hk, q⟩ := u3 j hj
    have := (m4.2.2.2.1 j hj).2.2.1
    obtain ⟨h1, hh1, q1⟩ := forth h hh k (by omega) (by omega)
    exact ⟨h1, hh1, k, hk, by rw [q1, q]⟩
  · obtain ⟨h1, hh1, q1, -⟩ := back h hh k q
    exact Or.inl ⟨h1, hh1, k, hk, q1⟩
  · have hbf : b ≠ f := fun q => hj (by rw [k3, q, upd_at])
    have hj2 : t2 3 b ≠ 1 := by rw [k3, upd_o hbf] at hj; exact hj
    have hbg : b ≠ g := fun q => hj2 (by rw [q]; exact g6)
    refine ⟨?_, hj2, by rw [ko 4 (by omega) (by omega)], fun w hw => by rw [k2, mo _ (by omega) (by omega)]⟩
    rcases hb with y | ⟨y, h, hh, q⟩
    · exact Or.inl y
    · obtain ⟨h1, hh1, q1, -⟩ := back h hh 6 (by rw [q]; exact y)
      exact Or.inr ⟨y, h1, hh1, by rw [q1, q]⟩
  · rw [ko 4 (by omega) (by omega)]; exact u6 b hb
  · rw [ko 4 (by omega) (by omega)] at q
    rw [k3, upd_o (by omega)]; exact u7 ⟨b, hb, q⟩
  · rw [k3, ko 4 (by omega) (by omega)]
    have x1 := cn_upd1 (f := t2 3) (b := f) 23
    rw [if_pos (by omega)] at x1
    unfold ndv at v5
    by_cases q : cn (t1 3) 23 = 0
    · have q4 : cn (t1 4) 23 = 0 := by
        have : ∀ m, m ≤ 23 → cn (t1 4) m = 0 := by
          intro m
          induction m with
          | zero => intro _; rfl
          | succ m ih =>
            intro hm
            show cn (t1 4) m + _ = 0
            rw [ih (by omega), if_neg (fun y => ?_)]
            have := cn_pos 23 (show 6 < 23 by omega) (r7 ⟨m, by omega, y⟩)
            omega
        exact this 23 (Nat.le_refl _)
      unfold szf; omega
    · rw [if_neg q] at v5
      unfold szf at *; omega
