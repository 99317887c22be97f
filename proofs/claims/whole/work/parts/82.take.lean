theorem opG_spec {t : tj_S} {rf : Nat → Nat → Nat} (hR : ∀ f, f < 6 → fsG (t 2) (rf f) f) {i : Nat} (hi : i < 16) : f_Mod_open (nI (i + 7)) t = some (if opB rf (t 0 16) i = true then 1 else 0, t) := by
  unfold f_Mod_open
  rw [usG_spec hR (by omega) (by omega), bd_s]
  rw [show (nI (i + 7) - 7 : Int32) = nI i from by rw [show (nI (i + 7) - 7 : Int32) = nI (i + 7 - 7) from pk_sub (b := 7) (by omega)]; rfl]
  unfold opB
  cases usB rf (i + 7)
  · rw [if_pos (show (if false = true then (1 : Int32) else 0) = 0 from rfl)]
    by_cases h : bt (t 0 16) i = false
    · rw [if_pos ((b_ask (by omega)).mpr h), h]; rfl
    · rw [if_neg (fun e => h ((b_ask (by omega)).mp e))]
      have h : bt (t 0 16) i = true := by simpa using h
      rw [h]; rfl
  · rw [if_pos rfl, if_neg (by decide)]; rfl
theorem pop_first {p : Nat → Bool} : ∀ n, 0 < popN p n → ∃ j, j < n ∧ p j = true ∧ ∀ i, i < j → p i = false
  | 0, h => absurd h (by simp [popN])
  | n + 1, h => by
    by_cases q : 0 < popN p n
    · obtain ⟨j, h1, h2, h3⟩ := pop_first n q
      exact ⟨j, by omega, h2, h3⟩
    · have h0 : popN p n = 0 := by omega
      have hz : ∀ m, m ≤ n → popN p m = 0 → ∀ i, i < m → p i = false := by
        intro m
        induction m with
        | zero => intro _ _ i hi; omega
        | succ m ih =>
          intro hm he i hi
          have e : popN p m + (p m).toNat = 0 := he
          by_cases y : i = m
          · rw [y]
            cases hp : p m
            · rfl
            · rw [hp] at e; simp at e
          · exact ih (by omega) (by omega) i (by omega)
      refine ⟨n, by omega, ?_, hz n (Nat.le_refl _) h0⟩
      have e : 0 < popN p n + (p n).toNat := h
      cases hp : p n
      · rw [hp, h0] at e; simp at e
      · rfl
theorem tk3_L {t : tj_S} {rf : Nat → Nat → Nat} (hR : ∀ f, f < 6 → fsG (t 2) (rf f) f) {j : Nat} (hj : j < 16) (h1 : opB rf (t 0 16) j = true) (h0 : ∀ i, i < j → opB rf (t 0 16) i = false) (y : Int32) (k : Int32 → tj_S → Option (Int32 × tj_S)) : ∀ m i n, i + m = j → f_Mod_take_L3 y k (n + m + 1) (nI (i + 7)) t = k (nI (j + 7)) t := by
  intro m
  induction m with
  | zero =>
    intro i n h
    have : i = j := by omega
    subst this
    rw [f_Mod_take_L3, if_neg (by rw [show ((23 : Int32) ≤ nI (i + 7)) = (23 ≤ i + 7) from le_n (a := 23) (by omega) (by omega)]; omega), opG_spec hR hj, bd_s, h1, if_neg (show ¬ (if true = true then (1 : Int32) else 0) = 0 from by decide)]
  | succ m ih =>
    intro i n h
    rw [show n + (m + 1) + 1 = (n + m + 1) + 1 by omega, f_Mod_take_L3, if_neg (by rw [show ((23 : Int32) ≤ nI (i + 7)) = (23 ≤ i + 7) from le_n (a := 23) (by omega) (by omega)]; omega), opG_spec hR (by omega), bd_s, h0 i (by omega), if_pos (show (if false = true then (1 : Int32) else 0) = 0 from rfl), nm_s, nI_s, show i + 7 + 1 = i + 1 + 7 by omega]
    exact ih (i + 1) n (by omega)
def zer (u : Nat → Int32) (b w : Nat) : Nat → Int32 := fun i => if 4 * b + w ≤ i ∧ i < 4 * b + 4 then 0 else u i
theorem zer_s {u : Nat → Int32} {b w : Nat} (hw : w < 4) : zer (upd u (4 * b + w) 0) b (w + 1) = zer u b w := by
  funext i
  unfold zer upd
  by_cases q : i = 4 * b + w
  · rw [if_neg (by omega), if_pos q, if_pos (by omega)]
  · by_cases q2 : 4 * b + w ≤ i ∧ i < 4 * b + 4
    · rw [if_pos (by omega), if_pos q2]
    · rw [if_neg (by omega), if_neg q2, if_neg q]
theorem zer_4 {u : Nat → Int32} {b : Nat} : zer u b 4 = u := by
  funext i; unfold zer; rw [if_neg (by omega)]
theorem up2_1 {s : tj_S} {a i : Nat} {v : Int32} : up2 s a i v = st2 s a (upd (s a) i v) := rfl
theorem st2_self {t : tj_S} {a : Nat} : st2 t a (t a) = t := by
  funext b
  by_cases h : b = a
  · subst h; rw [st2_eq]
  · rw [st2_ne h]
theorem tk25_L {b : Nat} (hb : b < 23) (y : Int32) (k : Int32 → tj_S → Option (Int32 × tj_S)) : ∀ m w n (t : tj_S), w + m = 4 → f_Mod_take_L25 y (nI b) k (n + m + 1) (nI w) t = k (nI 4) (st2 t 2 (zer (t 2) b w)) := by
  intro m
  induction m with
  | zero =>
    intro w n t h
    have : w = 4 := by omega
    subst this
    rw [f_Mod_take_L25, if_pos (by decide), zer_4, st2_self]
  | succ m ih =>
    intro w n t h
    rw [show n + (m + 1) + 1 = (n + m + 1) + 1 by omega, f_Mod_take_L25, if_neg (by rw [show ((4 : Int32) ≤ nI w) = (4 ≤ w) from le_n (a := 4) (by omega) (by omega)]; omega), adr2, gd_in (by omega) (by omega), nm_s, nm_s, cl_n (by omega), nI_s, ih (w + 1) n _ (by omega), up2_1, st2_st2, st2_eq, zer_s (by omega)]
theorem cw_L {b : Nat} (hb : b < 23) (k : Int32 → tj_S → Option tj_S) : ∀ m w n (s : tj_S), w + m = 4 → f_Mem_clearWords_L2 (nI b) k (n + m + 1) (nI w) s = k (nI 4) (st2 s 11 (zer (s 11) b w)) := by
  intro m
  induction m with
  | zero =>
    intro w n s h
    have : w = 4 := by omega
    subst this
    rw [f_Mem_clearWords_L2, if_pos (by decide), zer_4, st2_self]
  | succ m ih =>
    intro w n s h
    rw [show n + (m + 1) + 1 = (n + m + 1) + 1 by omega, f_Mem_clearWords_L2, if_neg (by rw [show ((4 : Int32) ≤ nI w) = (4 ≤ w) from le_n (a := 4) (by omega) (by omega)]; omega), sw_spec hb (by omega), bv_s, nm_s, nI_s, ih (w + 1) n _ (by omega), up2_1, st2_st2, st2_eq, zer_s (by omega)]
theorem cw_spec {b : Nat} (hb : b < 23) (s : tj_S) : f_Mem_clearWords (nI b) s = some (st2 s 11 (zer (s 11) b 0)) := by
  have h := cw_L hb (fun x10 s11 => some s11) 4 0 95 s (by omega)
  rw [show (95 + 4 + 1 : Nat) = 100 from rfl] at h
  exact h
/-- the class takes the first block that can be taken -/
theorem tb8_L {s : tj_S} {x y5 : Int32} {p : Nat → Bool} (hx : s 11 24 = x) (hy : ∀ i, i < 16 → bt y5 i = p i) {j : Nat} (hj : j < 16) (h1 : p j = true) (h0 : ∀ i, i < j → p i = false) (k : Int32 → tj_S → Option (Int32 × tj_S)) : ∀ m i n, i + m = j → f_Mem_takeBlock_L8 y5 k (n + m + 1) (nI (i + 7)) s = some (nI (j + 7), st2 (up2 (up2 s 11 24 (x ||| ((1 : Int32) <<< (nI j &&& 31)))) 10 3 (s 10 3 ||| ((1 : Int32) <<< (nI 6 &&& 31)))) 11 (zer (upd (s 11) 24 (x ||| ((1 : Int32) <<< (nI j &&& 31)))) (j + 7) 0)) := by
  have e7 : ∀ i, (nI (i + 7) - 7 : Int32) = nI i := fun i => by rw [show (nI (i + 7) - 7 : Int32) = nI (i + 7 - 7) from pk_sub (b := 7) (by omega)]; rfl
  intro m
  induction m with
  | zero =>
    intro i n h
    have : i = j := by omega
    subst this
    have hb : ¬ ((y5 >>> (nI i &&& 31)) &&& 1 = 0) := fun q => by
      have := (b_ask (show i < 32 by omega)).mp q
      rw [hy i hj, h1] at this; exact absurd this (by decide)
    rw [f_Mem_takeBlock_L8, if_neg (by rw [show ((23 : Int32) ≤ nI (i + 7)) = (23 ≤ i + 7) from le_n (a := 23) (by omega) (by omega)]; omega), e7, if_neg hb]
    unfold f_Mem_blocksInUse
    rw [gd_t (show inb (24 : Int32) 92 = true from by decide +kernel), bd_s, show (24 : Int32).toNatClampNeg = 24 from by decide +kernel, hx, show (6 : Int32) = nI 6 from rfl, show (0 : Int32) = nI 0 from rfl, sw_spec (by omega) (by omega), bv_s, jn_spec (by omega), bv_s, cw_spec (by omega), bv_s, up2_ne (show 10 ≠ 11 by omega), up2_ne (show 11 ≠ 10 by omega), up2_eq]
  | succ m ih =>
    intro i n h
    have hb : (y5 >>> (nI i &&& 31)) &&& 1 = 0 := (b_ask (show i < 32 by omega)).mpr (by rw [hy i (by omega)]; exact h0 i (by omega))
    rw [show n + (m + 1) + 1 = (n + m + 1) + 1 by omega, f_Mem_takeBlock_L8, if_neg (by rw [show ((23 : Int32) ≤ nI (i + 7)) = (23 ≤ i + 7) from le_n (a := 23) (by omega) (by omega)]; omega), e7, if_pos hb, nm_s, nI_s, show i + 7 + 1 = i + 1 + 7 by omega]
    exact ih (i + 1) n (by omega)
