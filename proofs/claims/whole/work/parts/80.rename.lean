def mvw (u : Nat → Int32) (f g w : Nat) : Nat → Int32 := fun i => if 4 * g + w ≤ i ∧ i < 4 * g + 4 then u (4 * f + (i - 4 * g)) else if 4 * f + w ≤ i ∧ i < 4 * f + 4 then 0 else u i
theorem mvw_s {u : Nat → Int32} {f g w : Nat} (hfg : f ≠ g) (hw : w < 4) : mvw (upd (upd u (4 * g + w) (u (4 * f + w))) (4 * f + w) 0) f g (w + 1) = mvw u f g w := by
  funext i
  unfold mvw upd
  by_cases q1 : 4 * g + w ≤ i ∧ i < 4 * g + 4
  · rw [if_pos q1]
    by_cases q2 : i = 4 * g + w
    · rw [if_neg (by omega), if_neg (by omega), if_neg (by omega), if_pos q2, q2, show 4 * g + w - 4 * g = w by omega]
    · rw [if_pos (by omega), if_neg (by omega), if_neg (by omega)]
  · rw [if_neg q1, if_neg (by omega)]
    by_cases q3 : 4 * f + w ≤ i ∧ i < 4 * f + 4
    · rw [if_pos q3]
      by_cases q4 : i = 4 * f + w
      · rw [if_neg (by omega), if_pos q4]
      · rw [if_pos (by omega)]
    · rw [if_neg q3, if_neg (by omega), if_neg (by omega), if_neg (by omega)]
theorem mvw_4 {u : Nat → Int32} {f g : Nat} : mvw u f g 4 = u := by
  funext i; unfold mvw; rw [if_neg (by omega), if_neg (by omega)]
theorem up2_2 {s : tj_S} {a i j : Nat} {v w : Int32} : up2 (up2 s a i v) a j w = st2 s a (upd (upd (s a) i v) j w) := by
  funext b
  by_cases h : b = a
  · subst h; rw [up2_eq, up2_eq, st2_eq]
  · rw [up2_ne h, up2_ne h, st2_ne h]
theorem mvX_L {f g : Nat} (hf : f < 6) (hg : g < 6) (hfg : f ≠ g) (k : Int32 → tj_S → Option tj_S) : ∀ m w n (s : tj_S), w + m = 4 → f_Mem_moveInode_L2 (nI f) (nI g) k (n + m + 1) (nI w) s = k (nI 4) (st2 s 11 (mvw (s 11) f g w)) := by
  intro m
  induction m with
  | zero =>
    intro w n s h
    have : w = 4 := by omega
    subst this
    rw [f_Mem_moveInode_L2, if_pos (by decide), mvw_4]
    congr 1
    funext a
    by_cases q : a = 11
    · subst q; rw [st2_eq]
    · rw [st2_ne q]
  | succ m ih =>
    intro w n s h
    rw [show n + (m + 1) + 1 = (n + m + 1) + 1 by omega, f_Mem_moveInode_L2, if_neg (by rw [show ((4 : Int32) ≤ nI w) = (4 ≤ w) from le_n (a := 4) (by omega) (by omega)]; omega), wd_spec (by omega) (by omega), bd_s, sw_spec (by omega) (by omega), bv_s, sw_spec (by omega) (by omega), bv_s, nm_s, nI_s, ih (w + 1) n _ (by omega), up2_2, st2_st2, st2_eq, mvw_s hfg (by omega)]
theorem mvM_L {f g : Nat} (hf : f < 6) (hg : g < 6) (hfg : f ≠ g) (k : Int32 → tj_S → Option (Int32 × tj_S)) : ∀ m w n (t : tj_S), w + m = 4 → f_Mod_rename_L43 (nI f) (nI g) k (n + m + 1) (nI w) t = k (nI 4) (st2 t 2 (mvw (t 2) f g w)) := by
  intro m
  induction m with
  | zero =>
    intro w n t h
    have : w = 4 := by omega
    subst this
    rw [f_Mod_rename_L43, if_pos (by decide), mvw_4]
    congr 1
    funext a
    by_cases q : a = 2
    · subst q; rw [st2_eq]
    · rw [st2_ne q]
  | succ m ih =>
    intro w n t h
    rw [show n + (m + 1) + 1 = (n + m + 1) + 1 by omega, f_Mod_rename_L43, if_neg (by rw [show ((4 : Int32) ≤ nI w) = (4 ≤ w) from le_n (a := 4) (by omega) (by omega)]; omega), adr2, adr2, gd_in (by omega) (by omega), gd_in (by omega) (by omega), nm_s, gd_in (by omega) (by omega), nm_s, nm_s, nI_s, cl_n (by omega), cl_n (by omega), ih (w + 1) n _ (by omega), up2_2, st2_st2, st2_eq, mvw_s hfg (by omega)]
