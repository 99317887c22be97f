theorem nd_L {t : tj_S} (h1 : ∀ i, i < 23 → t 3 i = 0 ∨ t 3 i = 1) (h2 : ∀ i, i < 23 → t 4 i = 0 ∨ t 4 i = 1) (k : Int32 → Int32 → Int32 → tj_S → Option (Int32 × tj_S)) : ∀ n i, i ≤ 23 → 23 - i < n → f_Mod_needs_L6 k n (nI (cn (t 3) i)) (nI (cn (t 4) i)) (nI i) t = k (nI (cn (t 3) 23)) (nI (cn (t 4) 23)) (nI 23) t := by
  intro n
  induction n with
  | zero => intro i hi hn; omega
  | succ n ih =>
    intro i hi hn
    rw [f_Mod_needs_L6]
    by_cases e : i = 23
    · subst e
      rw [if_pos (by decide)]
    · have hc : ¬ ((23 : Int32) ≤ nI i) := by
        rw [show ((23 : Int32) ≤ nI i) = (23 ≤ i) from le_n (a := 23) (by omega) (by omega)]; omega
      have hg : ∀ {α : Type} (k : Option α), gd (inb (nI i) 23) k = k := fun k => gd_in (by omega) (by omega)
      have ih' := ih (i + 1) (by omega) (by omega)
      have c3 : cn (t 3) (i + 1) = cn (t 3) i + (if t 3 i = 1 then 1 else 0) := rfl
      have c4 : cn (t 4) (i + 1) = cn (t 4) i + (if t 4 i = 1 then 1 else 0) := rfl
      rw [c3, c4] at ih'
      rw [if_neg hc]
      simp only [hg, nm_s, nI_s, cl_n (show i < 2 ^ 31 by omega)]
      rcases h1 i (by omega) with e1 | e1 <;> rcases h2 i (by omega) with e2 | e2
      · rw [if_pos e1, if_pos e2]
        rw [if_neg (by rw [e1]; decide), if_neg (by rw [e2]; decide)] at ih'
        exact ih'
      · rw [if_pos e1, if_neg (by rw [e2]; decide)]
        rw [if_neg (by rw [e1]; decide), if_pos e2] at ih'
        rw [nI_1]; exact ih'
      · rw [if_neg (by rw [e1]; decide), if_pos e2]
        rw [if_pos e1, if_neg (by rw [e2]; decide)] at ih'
        rw [nI_1]; exact ih'
      · rw [if_neg (by rw [e1]; decide), if_neg (by rw [e2]; decide)]
        rw [if_pos e1, if_pos e2] at ih'
        rw [nI_1, nI_1]; exact ih'
theorem nd_spec {t : tj_S} (h1 : ∀ i, i < 23 → t 3 i = 0 ∨ t 3 i = 1) (h2 : ∀ i, i < 23 → t 4 i = 0 ∨ t 4 i = 1) : f_Mod_needs t = some (nI (ndv (cn (t 3) 23) (cn (t 4) 23)), t) := by
  have q := nd_L h1 h2 (fun x23 x24 x25 s26 =>
    if x23 = (0 : Int32) then
      some ((0 : Int32), s26)
    else
      some ((((x23 + ((x23 + (3 : Int32)) / (4 : Int32))) + ((x24 + (3 : Int32)) / (4 : Int32))) + (1 : Int32)), s26)) 100 0 (by omega) (by omega)
  refine Eq.trans q ?_
  have hc := cn_le (t 3) 23
  have hg := cn_le (t 4) 23
  unfold ndv
  by_cases h : cn (t 3) 23 = 0
  · rw [h]; rfl
  · rw [if_neg h]
    have hne : ¬ nI (cn (t 3) 23) = 0 := nI_ne0 (by omega) (by omega)
    rw [if_neg hne]
    have e1 : (nI (cn (t 3) 23) + 3 : Int32) / 4 = nI ((cn (t 3) 23 + 3) / 4) := by
      rw [show (nI (cn (t 3) 23) + 3 : Int32) = nI (cn (t 3) 23 + 3) from nI_add _ 3]
      exact pk_div (d := 4) (by omega) (by omega) (by omega)
    have e2 : (nI (cn (t 4) 23) + 3 : Int32) / 4 = nI ((cn (t 4) 23 + 3) / 4) := by
      rw [show (nI (cn (t 4) 23) + 3 : Int32) = nI (cn (t 4) 23 + 3) from nI_add _ 3]
      exact pk_div (d := 4) (by omega) (by omega) (by omega)
    rw [e1, e2, nI_add, nI_add, nI_1]; rfl
theorem sl_spec {s : tj_S} {o k : Nat} (ho : s 4 5 = nI o) (h : o < 1000) (hk : k < 1000) : f_Log_slot (nI k) s = some (nI ((o + k) % 8), s) := by
  unfold f_Log_slot
  rw [ho, nI_add, show (nI (o + k) - nI (o + k) / 8 * 8 : Int32) = nI ((o + k) % 8) from pk_rem (d := 8) (by omega) (by omega) (by omega)]
theorem ab_mono {s t : tj_S} {c o : Nat} {z ab : Nat → Nat} (h : ∀ k, k < c → rTx s t o z ab k) : ∀ {i j : Nat}, i ≤ j → j ≤ c → ab i ≤ ab j := by
  intro i j hij hj
  induction j with
  | zero => rw [Nat.le_zero.mp hij]; exact Nat.le_refl _
  | succ j ih =>
    rcases Nat.lt_or_ge j i with h1 | h1
    · rw [show i = j + 1 by omega]; exact Nat.le_refl _
    · have := ih h1 (by omega)
      have h2 := (h j (by omega)).1
      omega
theorem fp_L {s t : tj_S} {c o : Nat} {z ab : Nat → Nat} (hL : rLog s t c o z ab) (k : Int32 → Int32 → tj_S → Option (Int32 × tj_S)) : ∀ n i, i ≤ c → c - i < n → f_Log_freePlaces_L5 k n (nI (24 - (ab i - ab 0))) (nI i) s = k (nI (24 - (ab c - ab 0))) (nI c) s := by
  obtain ⟨hc, ho, e1, e2, e3, e4, e5, hab, hT⟩ := hL
  intro n
  induction n with
  | zero => intro i hi hn; omega
  | succ n ih =>
    intro i hi hn
    rw [f_Log_freePlaces_L5, e1]
    by_cases e : i = c
    · subst e; rw [if_pos (by rw [le_n (by omega) (by omega)]; exact Nat.le_refl _)]
    · obtain ⟨q1, q2, q3, q4, q5⟩ := hT i (by omega)
      have m1 := ab_mono hT (i := 0) (j := i) (by omega) (by omega)
      have m2 := ab_mono hT (i := i + 1) (j := c) (by omega) (by omega)
      rw [if_neg (by rw [le_n (by omega) (by omega)]; omega), sl_spec e3 (by omega) (by omega), bd_s, gd_in (Nat.mod_lt _ (by omega)) (by omega), cl_n (by omega), q2, nm_s, nm_s, nI_s, pk_sub (by omega)]
      rw [← ih (i + 1) (by omega) (by omega)]
      congr 2; omega
theorem fp_spec {s t : tj_S} {c o : Nat} {z ab : Nat → Nat} (hL : rLog s t c o z ab) : f_Log_freePlaces s = some (nI (24 - (ab c - ab 0)), s) := by
  have q := fp_L hL (fun x14 x15 s16 => some (x14, s16)) 100 0 (by omega) (by have := hL.1; omega)
  refine Eq.trans ?_ q
  rw [Nat.sub_self]; rfl
theorem vc_L {s t : tj_S} {c o : Nat} {z ab : Nat → Nat} (hL : rLog s t c o z ab) (k : Int32 → Int32 → tj_S → Option (Int32 × tj_S)) : ∀ n i, i ≤ c → c - i < n → f_Mod_vacant_L5 k n (nI (24 - (ab i - ab 0))) (nI i) t = k (nI (24 - (ab c - ab 0))) (nI c) t := by
  obtain ⟨hc, ho, e1, e2, e3, e4, e5, hab, hT⟩ := hL
  intro n
  induction n with
  | zero => intro i hi hn; omega
  | succ n ih =>
    intro i hi hn
    rw [f_Mod_vacant_L5, e2]
    by_cases e : i = c
    · subst e; rw [if_pos (by rw [le_n (by omega) (by omega)]; exact Nat.le_refl _)]
    · obtain ⟨q1, q2, q3, q4, q5⟩ := hT i (by omega)
      have m1 := ab_mono hT (i := 0) (j := i) (by omega) (by omega)
      have m2 := ab_mono hT (i := i + 1) (j := c) (by omega) (by omega)
      rw [if_neg (by rw [le_n (by omega) (by omega)]; omega), gd_in (by omega) (by omega), cl_n (by omega), q3, nm_s, nm_s, nI_s, pk_sub (by omega)]
      rw [← ih (i + 1) (by omega) (by omega)]
      congr 2; omega
theorem vc_spec {s t : tj_S} {c o : Nat} {z ab : Nat → Nat} (hL : rLog s t c o z ab) : f_Mod_vacant t = some (nI (24 - (ab c - ab 0)), t) := by
  have q := vc_L hL (fun x14 x15 s16 => some (x14, s16)) 100 0 (by omega) (by have := hL.1; omega)
  refine Eq.trans ?_ q
  rw [Nat.sub_self]; rfl
/-- an argument that is a file, or isn't -/
theorem fl_cases (a : Int32) (s t : tj_S) : (f_X_isFile a s = some (0, s) ∧ f_Mod_file a t = some (0, t)) ∨ ∃ j, j < 6 ∧ a = nI j ∧ f_X_isFile a s = some (1, s) ∧ f_Mod_file a t = some (1, t) := by
  unfold f_X_isFile f_Mod_file
  rcases pk_ix a (n := 6) (by omega) with h | h | ⟨j, hj, rfl⟩
  · left; rw [if_pos h, if_pos h]; exact ⟨rfl, rfl⟩
  · left
    have h6 : (6 : Int32) ≤ a := h
    have h1 : ¬ a < 0 := by
      rw [Int32.lt_iff_toInt_lt]; rw [Int32.le_iff_toInt_le] at h6
      have e6 : (6 : Int32).toInt = 6 := by decide
      have e0 : (0 : Int32).toInt = 0 := by decide
      omega
    have h5 : (5 : Int32) < a := by
      rw [Int32.lt_iff_toInt_lt]; rw [Int32.le_iff_toInt_le] at h6
      have e6 : (6 : Int32).toInt = 6 := by decide
      have e0 : (5 : Int32).toInt = 5 := by decide
      omega
    rw [if_neg h1, if_pos h6, if_neg h1, if_pos h5]; exact ⟨rfl, rfl⟩
  · right
    refine ⟨j, hj, rfl, ?_, ?_⟩
    · rw [if_neg (nI_pos (by omega)), if_neg (by rw [show ((6 : Int32) ≤ nI j) = (6 ≤ j) from le_n (a := 6) (by omega) (by omega)]; omega)]
    · rw [if_neg (nI_pos (by omega)), if_neg (by rw [show ((5 : Int32) < nI j) = (5 < j) from lt_n (a := 5) (by omega) (by omega)]; omega)]
/-- a Word of a block: the class's check, and the address -/
theorem iw_t {b w : Nat} (hb : b < 23) (hw : w < 4) (s : tj_S) : f_X_isWord (nI b) (nI w) s = some (1, s) := by
  unfold f_X_isWord
  rw [if_neg (nI_pos (by omega)), if_neg (by rw [show ((23 : Int32) ≤ nI b) = (23 ≤ b) from le_n (a := 23) (by omega) (by omega)]; omega), if_neg (nI_pos (by omega)), if_neg (by rw [show ((4 : Int32) ≤ nI w) = (4 ≤ w) from le_n (a := 4) (by omega) (by omega)]; omega)]
theorem adr {b w : Nat} : (nI b * 4 + nI w : Int32) = nI (4 * b + w) := by
  rw [show (nI b * 4 : Int32) = nI (b * 4) from pk_mul b 4, nI_add, Nat.mul_comm]
theorem adr2 {b w : Nat} : (4 * nI b + nI w : Int32) = nI (4 * b + w) := by
  rw [show (4 * nI b : Int32) = nI (4 * b) from pk_mul 4 b, nI_add]
theorem wd_spec {b w : Nat} (hb : b < 23) (hw : w < 4) (s : tj_S) : f_Mem_word (nI b) (nI w) s = some (s 11 (4 * b + w), s) := by
  unfold f_Mem_word
  rw [iw_t hb hw, bd_s, if_neg (by decide), adr, gd_in (by omega) (by omega), cl_n (by omega)]
theorem ln_spec {f : Nat} (hf : f < 6) (s : tj_S) : f_Mem_fileLength (nI f) s = some (s 11 (4 * f), s) := by
  unfold f_Mem_fileLength
  rw [show (0 : Int32) = nI 0 from rfl, wd_spec (by omega) (by omega), bd_s]; rfl
theorem lnM {f : Nat} : (4 * nI f : Int32) = nI (4 * f) := pk_mul 4 f
