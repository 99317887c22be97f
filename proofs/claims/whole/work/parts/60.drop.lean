theorem vn01 {v : Int32} (h : v = 0 ∨ v = 1) : vp_nar .boolean v = v := by
  rcases h with rfl | rfl <;> decide +kernel
theorem st2_st2 {t : tj_S} {a : Nat} {f g : Nat → Int32} : st2 (st2 t a f) a g = st2 t a g := by
  funext b
  by_cases h : b = a
  · subst h; rw [st2_eq, st2_eq]
  · rw [st2_ne h, st2_ne h, st2_ne h]
theorem dr36_L {K j : Nat} (hK : 0 < K) (hj : j + K < 8) (k : Int32 → tj_S → Option tj_S) : ∀ m b n (u : tj_S), b + m = 23 → (∀ i, i < 23 → (u 6 (23 * j + i + 23 * K) = 0 ∨ u 6 (23 * j + i + 23 * K) = 1) ∧ (u 7 (23 * j + i + 23 * K) = 0 ∨ u 7 (23 * j + i + 23 * K) = 1)) → f_Mod_drop_L36 (nI K) (nI j) k (n + m + 1) (nI b) u = k (nI 23) (st2 (st2 u 6 (fun i => if 23 * j + b ≤ i ∧ i < 23 * j + 23 then u 6 (i + 23 * K) else u 6 i)) 7 (fun i => if 23 * j + b ≤ i ∧ i < 23 * j + 23 then u 7 (i + 23 * K) else u 7 i)) := by
  intro m
  induction m with
  | zero =>
    intro b n u h hu
    have : b = 23 := by omega
    subst this
    rw [f_Mod_drop_L36, if_pos (by decide)]
    congr 1
    funext a
    by_cases q : a = 7
    · subst q; rw [st2_eq]; funext i; rw [if_neg (by omega)]
    · rw [st2_ne q]
      by_cases q : a = 6
      · subst q; rw [st2_eq]; funext i; rw [if_neg (by omega)]
      · rw [st2_ne q]
  | succ m ih =>
    intro b n u h hu
    obtain ⟨v6, v7⟩ := hu b (by omega)
    rw [show n + (m + 1) + 1 = (n + m + 1) + 1 by omega, f_Mod_drop_L36, if_neg (by rw [show ((23 : Int32) ≤ nI b) = (23 ≤ b) from le_n (a := 23) (by omega) (by omega)]; omega)]
    rw [nI_add, ad23, ad23, gd_in (by omega) (by omega), gd_in (by omega) (by omega), nm_s, gd_in (by omega) (by omega), gd_in (by omega) (by omega), nm_s, nm_s, cl_n (by omega), cl_n (by omega), nI_s]
    rw [show 23 * (j + K) + b = 23 * j + b + 23 * K by omega, vn01 v6, up2_ne (show 7 ≠ 6 by omega), vn01 v7]
    rw [ih (b + 1) n _ (by omega) (fun i hi => by
      rw [up2_ne (show 6 ≠ 7 by omega), up2_o (show 23 * j + i + 23 * K ≠ 23 * j + b by omega), up2_o (show 23 * j + i + 23 * K ≠ 23 * j + b by omega), up2_ne (show 7 ≠ 6 by omega)]
      exact hu i hi)]
    congr 1
    funext a
    by_cases q : a = 7
    · subst q; rw [st2_eq, st2_eq]; funext i
      by_cases q1 : i = 23 * j + b
      · subst q1; rw [if_neg (by omega), if_pos (by omega), up2_at]
      · by_cases q2 : 23 * j + b ≤ i ∧ i < 23 * j + 23
        · rw [if_pos (by omega), if_pos q2, up2_o (by omega), up2_ne (by omega)]
        · rw [if_neg (by omega), if_neg q2, up2_o q1, up2_ne (by omega)]
    · rw [st2_ne q, st2_ne q]
      by_cases q6 : a = 6
      · subst q6; rw [st2_eq, st2_eq]; funext i
        rw [up2_ne (show 6 ≠ 7 by omega)]
        by_cases q1 : i = 23 * j + b
        · subst q1; rw [if_neg (by omega), if_pos (by omega), up2_at]
        · by_cases q2 : 23 * j + b ≤ i ∧ i < 23 * j + 23
          · rw [if_pos (by omega), if_pos q2, up2_o (by omega)]
          · rw [if_neg (by omega), if_neg q2, up2_o q1]
      · rw [st2_ne q6, st2_ne q6, up2_ne q, up2_ne q6]
theorem dr98_L {K j : Nat} (hK : 0 < K) (hj : j + K < 8) (k : Int32 → tj_S → Option tj_S) : ∀ m b n (u : tj_S), b + m = 92 → f_Mod_drop_L98 (nI K) (nI j) k (n + m + 1) (nI b) u = k (nI 92) (st2 u 8 (fun i => if 92 * j + b ≤ i ∧ i < 92 * j + 92 then u 8 (i + 92 * K) else u 8 i)) := by
  intro m
  induction m with
  | zero =>
    intro b n u h
    have : b = 92 := by omega
    subst this
    rw [f_Mod_drop_L98, if_pos (by decide)]
    congr 1
    funext a
    by_cases q : a = 8
    · subst q; rw [st2_eq]; funext i; rw [if_neg (by omega)]
    · rw [st2_ne q]
  | succ m ih =>
    intro b n u h
    rw [show n + (m + 1) + 1 = (n + m + 1) + 1 by omega, f_Mod_drop_L98, if_neg (by rw [show ((92 : Int32) ≤ nI b) = (92 ≤ b) from le_n (a := 92) (by omega) (by omega)]; omega)]
    rw [nI_add, ad92, ad92, gd_in (by omega) (by omega), gd_in (by omega) (by omega), nm_s, nm_s, cl_n (by omega), cl_n (by omega), nI_s]
    rw [show 92 * (j + K) + b = 92 * j + b + 92 * K by omega]
    rw [ih (b + 1) n _ (by omega)]
    congr 1
    funext a
    by_cases q : a = 8
    · subst q; rw [st2_eq, st2_eq]; funext i
      by_cases q1 : i = 92 * j + b
      · subst q1; rw [if_neg (by omega), if_pos (by omega), up2_at]
      · by_cases q2 : 92 * j + b ≤ i ∧ i < 92 * j + 92
        · rw [if_pos (by omega), if_pos q2, up2_o (by omega)]
        · rw [if_neg (by omega), if_neg q2, up2_o q1]
    · rw [st2_ne q, st2_ne q, up2_ne q]
/-- the transactions from K on, moved down to 0; m of them are moved -/
def shf (t : tj_S) (K m : Nat) : tj_S := fun a => if a = 9 then (fun i => if i < m then t 9 (i + K) else t 9 i) else if a = 6 then (fun i => if i < 23 * m then t 6 (i + 23 * K) else t 6 i) else if a = 7 then (fun i => if i < 23 * m then t 7 (i + 23 * K) else t 7 i) else if a = 8 then (fun i => if i < 92 * m then t 8 (i + 92 * K) else t 8 i) else t a
theorem shf_o {t : tj_S} {K m a : Nat} (h9 : a ≠ 9) (h6 : a ≠ 6) (h7 : a ≠ 7) (h8 : a ≠ 8) : shf t K m a = t a := by
  unfold shf; rw [if_neg h9, if_neg h6, if_neg h7, if_neg h8]
theorem shf_9 {t : tj_S} {K m : Nat} : shf t K m 9 = fun i => if i < m then t 9 (i + K) else t 9 i := rfl
theorem shf_6 {t : tj_S} {K m : Nat} : shf t K m 6 = fun i => if i < 23 * m then t 6 (i + 23 * K) else t 6 i := rfl
theorem shf_7 {t : tj_S} {K m : Nat} : shf t K m 7 = fun i => if i < 23 * m then t 7 (i + 23 * K) else t 7 i := rfl
theorem shf_8 {t : tj_S} {K m : Nat} : shf t K m 8 = fun i => if i < 92 * m then t 8 (i + 92 * K) else t 8 i := rfl
theorem dr_L {t : tj_S} {K c1 : Nat} (hK : 0 < K) (hc : c1 + K ≤ 8) (h10 : t 0 10 = nI c1) (h01 : ∀ i, i < 23 * (c1 + K) → (t 6 i = 0 ∨ t 6 i = 1) ∧ (t 7 i = 0 ∨ t 7 i = 1)) (k : Int32 → tj_S → Option tj_S) : ∀ m j n, j + m = c1 → f_Mod_drop_L12 (nI K) k (n + m + 1) (nI j) (shf t K j) = k (nI c1) (shf t K c1) := by
  intro m
  induction m with
  | zero =>
    intro j n h
    have : j = c1 := by omega
    subst this
    rw [f_Mod_drop_L12, shf_o (by omega) (by omega) (by omega) (by omega), h10, if_pos (Int32.le_refl _)]
  | succ m ih =>
    intro j n h
    rw [show n + (m + 1) + 1 = (n + m + 1) + 1 by omega, f_Mod_drop_L12, shf_o (a := 0) (by omega) (by omega) (by omega) (by omega), h10, if_neg (by rw [le_n (by omega) (by omega)]; omega)]
    rw [nI_add, gd_in (by omega) (by omega), gd_in (by omega) (by omega), nm_s, cl_n (by omega), cl_n (by omega)]
    have l1 := dr36_L hK (show j + K < 8 by omega) (fun x22 s23 => f_Mod_drop_L98 (nI K) (nI j) (fun x35 s36 => nm (nI j + Int32.ofInt 1) fun x37 => f_Mod_drop_L12 (nI K) k (n + m + 1) x37 s36) 100 (0 : Int32) s23) 23 0 76 (up2 (shf t K j) 9 j (shf t K j 9 (j + K))) (by omega) (fun i hi => by
      rw [up2_ne (show 6 ≠ 9 by omega), up2_ne (show 7 ≠ 9 by omega), shf_6, shf_7]
      dsimp only
      rw [if_neg (by omega), if_neg (by omega)]
      exact h01 _ (by omega))
    rw [show (100 : Nat) = 76 + 23 + 1 from rfl, show (0 : Int32) = nI 0 from rfl]
    refine Eq.trans l1 ?_
    have l2 := dr98_L hK (show j + K < 8 by omega) (fun x35 s36 => nm (nI j + Int32.ofInt 1) fun x37 => f_Mod_drop_L12 (nI K) k (n + m + 1) x37 s36) 92 0 7 (st2 (st2 (up2 (shf t K j) 9 j (shf t K j 9 (j + K))) 6 (fun i => if 23 * j + 0 ≤ i ∧ i < 23 * j + 23 then up2 (shf t K j) 9 j (shf t K j 9 (j + K)) 6 (i + 23 * K) else up2 (shf t K j) 9 j (shf t K j 9 (j + K)) 6 i)) 7 (fun i => if 23 * j + 0 ≤ i ∧ i < 23 * j + 23 then up2 (shf t K j) 9 j (shf t K j 9 (j + K)) 7 (i + 23 * K) else up2 (shf t K j) 9 j (shf t K j 9 (j + K)) 7 i)) (by omega)
    refine Eq.trans l2 ?_
    rw [nm_s, nI_s]
    refine Eq.trans ?_ (ih (j + 1) n (by omega))
    congr 1
    funext a
    by_cases q8 : a = 8
    · subst q8; rw [st2_eq, shf_8]; funext i
      rw [st2_ne (show 8 ≠ 7 by omega), st2_ne (show 8 ≠ 6 by omega), up2_ne (show 8 ≠ 9 by omega), shf_8]
      dsimp only
      by_cases q1 : 92 * j + 0 ≤ i ∧ i < 92 * j + 92
      · rw [if_pos q1, if_neg (by omega), if_pos (by omega)]
      · rw [if_neg q1]
        by_cases q2 : i < 92 * j
        · rw [if_pos q2, if_pos (by omega)]
        · rw [if_neg q2, if_neg (by omega)]
    rw [st2_ne q8]
    by_cases q7 : a = 7
    · subst q7; rw [st2_eq, shf_7]; funext i
      rw [up2_ne (show 7 ≠ 9 by omega), shf_7]
      dsimp only
      by_cases q1 : 23 * j + 0 ≤ i ∧ i < 23 * j + 23
      · rw [if_pos q1, if_neg (by omega), if_pos (by omega)]
      · rw [if_neg q1]
        by_cases q2 : i < 23 * j
        · rw [if_pos q2, if_pos (by omega)]
        · rw [if_neg q2, if_neg (by omega)]
    rw [st2_ne q7]
    by_cases q6 : a = 6
    · subst q6; rw [st2_eq, shf_6]; funext i
      rw [up2_ne (show 6 ≠ 9 by omega), shf_6]
      dsimp only
      by_cases q1 : 23 * j + 0 ≤ i ∧ i < 23 * j + 23
      · rw [if_pos q1, if_neg (by omega), if_pos (by omega)]
      · rw [if_neg q1]
        by_cases q2 : i < 23 * j
        · rw [if_pos q2, if_pos (by omega)]
        · rw [if_neg q2, if_neg (by omega)]
    rw [st2_ne q6]
    by_cases q9 : a = 9
    · subst q9; rw [up2_eq, shf_9]; funext i
      unfold upd
      rw [shf_9]
      dsimp only
      by_cases q1 : i = j
      · rw [if_pos q1, if_neg (by omega), if_pos (by omega), q1]
      · rw [if_neg q1]
        by_cases q2 : i < j
        · rw [if_pos q2, if_pos (by omega)]
        · rw [if_neg q2, if_neg (by omega)]
    rw [up2_ne q9, shf_o q9 q6 q7 q8, shf_o q9 q6 q7 q8]
theorem dr_spec {t : tj_S} {K c : Nat} (hK : 0 < K) (hKc : K ≤ c) (hc : c ≤ 8) (h10 : t 0 10 = nI c) (h01 : ∀ i, i < 23 * c → (t 6 i = 0 ∨ t 6 i = 1) ∧ (t 7 i = 0 ∨ t 7 i = 1)) : f_Mod_drop (nI K) t = some (shf (up2 t 0 10 (nI (c - K))) K (c - K)) := by
  unfold f_Mod_drop
  rw [nm_s, h10, pk_sub hKc]
  have l := dr_L (t := up2 t 0 10 (nI (c - K))) (K := K) (c1 := c - K) hK (by omega) up2_at (fun i hi => by rw [up2_ne (by omega), up2_ne (by omega)]; exact h01 i (by omega)) (fun x41 s42 => some s42) (c - K) 0 (99 - (c - K)) (by omega)
  rw [show 99 - (c - K) + (c - K) + 1 = 100 by omega] at l
  refine Eq.trans ?_ l
  congr 1
  funext a
  unfold shf
  split
  · next h => subst h; funext i; rw [if_neg (by omega)]
  · split
    · next h => subst h; funext i; rw [if_neg (by omega)]
    · split
      · next h => subst h; funext i; rw [if_neg (by omega)]
      · split
        · next h => subst h; funext i; rw [if_neg (by omega)]
        · rfl
theorem fo_spec {s : tj_S} {o c K : Nat} (ho : s 4 5 = nI o) (hc : s 4 6 = nI c) (h1 : o < 8) (h2 : K ≤ c) (h3 : c ≤ 8) : f_Log_forgetOldest (nI K) s = some (up2 (up2 s 4 5 (nI ((o + K) % 8))) 4 6 (nI (c - K))) := by
  unfold f_Log_forgetOldest
  rw [sl_spec ho (by omega) (by omega), bd_s, nm_s, nm_s, up2_o (by omega), hc, pk_sub h2]
