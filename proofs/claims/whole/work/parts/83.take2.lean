theorem G_zer {w : Nat → Int32} {rf : Nat → Nat → Nat} (h : ∀ f, f < 6 → fsG w (rf f) f) {b : Nat} (h7 : 7 ≤ b) (hu : ¬ usd rf b) : ∀ f, f < 6 → fsG (zer w b 0) (rf f) f := by
  refine G_frame h (fun g hg j j1 j2 => ?_) (fun g hg q j hj => ?_)
  · unfold zer; rw [if_neg (by omega)]
  · have : rf g 6 ≠ b := fun y => hu ⟨g, hg, 6, by omega, y⟩
    unfold zer; rw [if_neg (by omega)]
/-- a block is taken on both sides (the class's entry is set by its caller) -/
theorem tk_spec {s t : tj_S} {J : Nat → Int32} {d : Nat} {e : Nat → Nat} {rf : Nat → Nat → Nat} (h : mR s t J d e rf) (hu : s 10 5 = t 0 16) (hp : 0 < popN (opB rf (t 0 16)) 16) {f i p : Nat} (hf : f < 6) (hi : i < 7) (hz : rf f i = 0) (hp92 : p < 92) (hp24 : p ≠ 24)
    (hG : ∀ b, 7 ≤ b → b < 23 → ¬ usd rf b → ∀ g, g < 6 → fsG (upd (zer (t 2) b 0) p (nI b)) (upR rf f i b g) g) : ∃ (b : Nat) (x : Int32) (s1 t1 : tj_S), 7 ≤ b ∧ b < 23 ∧ ¬ usd rf b ∧ bt (t 0 16) (b - 7) = false ∧ f_Mem_takeBlock s = some (nI b, s1) ∧ f_Mod_take (nI p) t = some (nI b, t1) ∧ s1 11 = zer (upd (s 11) 24 x) b 0 ∧ t1 2 = upd (upd (zer (t 2) b 0) p (nI b)) 24 x ∧ mk (s1 10 3) (upd J 6 1) ∧ t1 3 = upd (t 3) 6 1 ∧ s1 10 4 = s 10 4 ∧ t1 4 = t 4 ∧ rDir s1 t1 d e ∧ (∀ g, g < 6 → fsG (t1 2) (upR rf f i b g) g) ∧ mapW x (upR rf f i b) ∧ uniq (upR rf f i b) ∧ sMm s s1 ∧ tMm t t1 := by
  obtain ⟨g1, g2, g3, g4, g5, g6, g7⟩ := h
  obtain ⟨j, hj, hj1, hj0⟩ := pop_first 16 hp
  have hop : usB rf (j + 7) = false ∧ bt (t 0 16) j = false := by
    unfold opB at hj1
    rw [Bool.and_eq_true, Bool.not_eq_true', Bool.not_eq_true'] at hj1
    exact hj1
  have hnu : ¬ usd rf (j + 7) := fun q => by rw [usB_iff.mpr q] at hop; exact absurd hop.1 (by decide)
  obtain ⟨x, hx⟩ : ∃ x, x = t 2 24 ||| ((1 : Int32) <<< (nI j &&& 31)) := ⟨_, rfl⟩
  have hmap : mapW x (upR rf f i (j + 7)) := by
    have := map_add g7 hf hi hz (b := j + 7) (by omega) (by omega)
    rw [show j + 7 - 7 = j by omega] at this
    rw [hx]; exact this
  have hG1 := hG (j + 7) (by omega) (by omega) hnu
  -- the class
  have ht : ∃ y5 : Int32, f_Mem_takeable s = some (y5, s) ∧ ∀ i, i < 16 → bt y5 i = opB rf (t 0 16) i := by
    refine ⟨((t 2 24 ||| t 0 16) ^^^ (-1 : Int32)) &&& (65535 : Int32), ?_, fun k hk => ?_⟩
    · unfold f_Mem_takeable f_Mem_blocksInUse
      rw [show (24 : Int32) = nI 24 from rfl, gd_in (by omega) (by omega), cl_n (by omega), bd_s, g1 24 (by omega), hu]
    · rw [b_and, b_65535, b_not (by omega), b_or, g7 k (by omega)]
      unfold opB
      cases usB rf (k + 7) <;> simp [hk]
  obtain ⟨y5, y1, y2⟩ := ht
  have tb := tb8_L (s := s) (x := t 2 24) (y5 := y5) (p := opB rf (t 0 16)) (g1 24 (by omega)) y2 hj hj1 hj0 (fun x21 s22 => some ((0 : Int32), s22)) j 0 (99 - j) (by omega)
  rw [show 99 - j + j + 1 = 100 by omega, ← hx] at tb
  -- the reference
  have t3 := tk3_L (t := t) g5 hj hj1 hj0 (nI p) (fun x12 s13 =>
    f_Mod_take_L25 (nI p) x12 (fun x24 s25 =>
      gd (inb (nI p) 92) <|
      nm (up2 s25 2 (Int32.toNatClampNeg (nI p)) x12) fun s27 =>
      bv (f_Mod_remap s27) fun s29 =>
      some (x12, s29)) 100 (0 : Int32) s13) j 0 (99 - j) (by omega)
  rw [show 99 - j + j + 1 = 100 by omega] at t3
  have t25 := tk25_L (b := j + 7) (by omega) (nI p) (fun x24 s25 =>
      gd (inb (nI p) 92) <|
      nm (up2 s25 2 (Int32.toNatClampNeg (nI p)) (nI (j + 7))) fun s27 =>
      bv (f_Mod_remap s27) fun s29 =>
      some (nI (j + 7), s29)) 4 0 95 t (by omega)
  rw [show (95 + 4 + 1 : Nat) = 100 from rfl] at t25
  generalize ht2 : up2 (st2 t 2 (zer (t 2) (j + 7) 0)) 2 p (nI (j + 7)) = t2
  have k2 : t2 2 = upd (zer (t 2) (j + 7) 0) p (nI (j + 7)) := by rw [← ht2, up2_eq, st2_eq]
  have ko : ∀ a, a ≠ 2 → t2 a = t a := fun a y => by rw [← ht2, up2_ne y, st2_ne y]
  have hr := rm_spec (t := t2) (rf := upR rf f i (j + 7)) (by rw [k2]; exact hG1) hmap
  have em : f_Mod_take (nI p) t = some (nI (j + 7), up2 (up2 t2 2 24 x) 3 6 1) := by
    refine Eq.trans t3 (Eq.trans t25 ?_)
    rw [gd_in hp92 (by omega), nm_s, cl_n (by omega), ht2, hr, bv_s]
  have ex : f_Mem_takeBlock s = some (nI (j + 7), st2 (up2 (up2 s 11 24 x) 10 3 (s 10 3 ||| ((1 : Int32) <<< (nI 6 &&& 31)))) 11 (zer (upd (s 11) 24 x) (j + 7) 0)) := by
    unfold f_Mem_takeBlock
    rw [y1, bd_s]; exact tb
  refine ⟨j + 7, x, _, _, by omega, by omega, hnu, by rw [show j + 7 - 7 = j by omega]; exact hop.2, ex, em, by rw [st2_eq], by rw [up2_ne (show 2 ≠ 3 by omega), up2_eq, k2], ?_, by rw [up2_eq, up2_ne (by omega), ko 3 (by omega)], ?_, ?_, ?_, ?_, hmap, uniq_add g6 (by omega) hnu, ⟨fun a y z w => ?_, ?_⟩, ⟨fun a y z v w u => ?_, fun k hk => ?_⟩⟩
  · rw [st2_ne (by omega), up2_at]; exact mk_set (by omega) g2
  · rw [st2_ne (by omega), up2_o (by omega), up2_ne (by omega)]
  · rw [up2_ne (by omega), up2_ne (by omega), ko 4 (by omega)]
  · unfold rDir at *
    rw [st2_ne (show 10 ≠ 11 by omega), up2_o (by omega), up2_ne (show 10 ≠ 11 by omega), st2_ne (show 12 ≠ 11 by omega), up2_ne (show 12 ≠ 10 by omega), up2_ne (show 12 ≠ 11 by omega), up2_ne (show 0 ≠ 3 by omega), up2_ne (show 0 ≠ 2 by omega), up2_ne (show 5 ≠ 3 by omega), up2_ne (show 5 ≠ 2 by omega), ko 0 (by omega), ko 5 (by omega)]; exact g4
  · rw [up2_ne (show 2 ≠ 3 by omega), up2_eq, k2]
    exact G_frame hG1 (fun g hg k k1 k2 => upd_o (by omega)) (fun g hg q k hk => upd_o (by have := ((hG1 g hg).2.2.2.1 6 (by omega)).2 q; omega))
  · rw [st2_ne z, up2_ne y, up2_ne z]
  · rw [st2_ne (by omega), up2_o (by omega), up2_ne (by omega)]
  · rw [up2_ne v, up2_ne z, ko a z]
  · rw [up2_ne (by omega), up2_ne (by omega), ko 0 (by omega)]
