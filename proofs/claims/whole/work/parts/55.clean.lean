def sDir (s s1 : tj_S) : Prop := (∀ a, a ≠ 10 → a ≠ 12 → s1 a = s a) ∧ ∀ i, i ≠ 2 → s1 10 i = s 10 i
def tDir (t t1 : tj_S) : Prop := (∀ a, a ≠ 0 → a ≠ 5 → t1 a = t a) ∧ ∀ i, i ≠ 5 → t1 0 i = t 0 i
theorem first_of (e : Nat → Nat) (b : Nat) : ∀ d, ∃ j, j ≤ d ∧ (∀ i, i < j → e i ≠ b) ∧ (j < d → e j = b)
  | 0 => ⟨0, Nat.le_refl _, fun i h => absurd h (by omega), fun h => absurd h (by omega)⟩
  | d + 1 => by
    obtain ⟨j, h1, h2, h3⟩ := first_of e b d
    by_cases q : j < d
    · exact ⟨j, by omega, h2, fun _ => h3 q⟩
    · have ej : j = d := by omega
      subst ej
      by_cases q2 : e j = b
      · exact ⟨j, by omega, h2, fun _ => q2⟩
      · exact ⟨j + 1, Nat.le_refl _, fun i hi => by
          rcases Nat.lt_or_ge i j with h | h
          · exact h2 i h
          · rw [show i = j by omega]; exact q2, fun h => absurd h (by omega)⟩
theorem dpl_L {s : tj_S} {d b j : Nat} {e : Nat → Nat} (hd : d ≤ 16) (h2 : s 10 2 = nI d) (h12 : ∀ i, i < d → s 12 i = nI (e i)) (he : ∀ i, i < d → e i < 1000) (hb : b < 1000) (hj : j ≤ d) (hj1 : ∀ i, i < j → e i ≠ b) (hj2 : j < d → e j = b) (k : Int32 → tj_S → Option (Int32 × tj_S)) : ∀ n i, i ≤ j → j - i < n → f_Mem_dirtyPlace_L2 (nI b) k n (nI i) s = k (nI j) s := by
  intro n
  induction n with
  | zero => intro i hi hn; omega
  | succ n ih =>
    intro i hi hn
    rw [f_Mem_dirtyPlace_L2, h2]
    by_cases q : i = d
    · have : i = j := by omega
      rw [if_pos (by rw [le_n (by omega) (by omega)]; omega), this]
    · rw [if_neg (by rw [le_n (by omega) (by omega)]; omega), gd_in (by omega) (by omega), cl_n (by omega), h12 i (by omega)]
      have hei := he i (by omega)
      by_cases q2 : i = j
      · rw [if_pos (by rw [q2, hj2 (by omega)]), q2]
      · rw [if_neg (by rw [eq_n (by omega) (by omega)]; exact hj1 i (by omega)), nm_s, nI_s]
        exact ih (i + 1) (by omega) (by omega)
theorem dpl_spec {s : tj_S} {d b j : Nat} {e : Nat → Nat} (hd : d ≤ 16) (h2 : s 10 2 = nI d) (h12 : ∀ i, i < d → s 12 i = nI (e i)) (he : ∀ i, i < d → e i < 1000) (hb : b < 1000) (hj : j ≤ d) (hj1 : ∀ i, i < j → e i ≠ b) (hj2 : j < d → e j = b) : f_Mem_dirtyPlace (nI b) s = some (nI j, s) :=
  dpl_L hd h2 h12 he hb hj hj1 hj2 (fun x10 s11 => some (x10, s11)) 100 0 (by omega) (by omega)
theorem up2_self {t : tj_S} {a i : Nat} : up2 t a i (t a i) = t := by
  funext b
  by_cases h : b = a
  · subst h; rw [up2_eq]; funext j
    by_cases h2 : j = i
    · subst h2; exact if_pos rfl
    · exact if_neg h2
  · exact up2_ne h
theorem cl_1 {t : tj_S} {d b j : Nat} {e : Nat → Nat} (hd : d ≤ 16) (h5 : t 0 5 = nI d) (h12 : ∀ i, i < d → t 5 i = nI (e i)) (he : ∀ i, i < d → e i < 1000) (hb : b < 1000) (hj : j ≤ d) (hj1 : ∀ i, i < j → e i ≠ b) (k : Int32 → Int32 → tj_S → Option tj_S) : ∀ m i n, i + m = j → f_Mod_clean_L4 (nI b) k (n + m) (nI i) (nI i) t = f_Mod_clean_L4 (nI b) k n (nI j) (nI j) t := by
  intro m
  induction m with
  | zero => intro i n h; rw [show i = j by omega]; rfl
  | succ m ih =>
    intro i n h
    rw [show n + (m + 1) = (n + m) + 1 by omega, f_Mod_clean_L4, h5, if_neg (by rw [le_n (by omega) (by omega)]; omega), gd_in (by omega) (by omega), cl_n (by omega)]
    have hei := he i (by omega)
    rw [if_neg (by rw [h12 i (by omega), eq_n (by omega) (by omega)]; exact hj1 i (by omega)), gd_in (by omega) (by omega), gd_in (by omega) (by omega), nm_s, nm_s, nm_s, up2_self, nI_s]
    exact ih (i + 1) n (by omega)
theorem cl_2 {d b : Nat} {e : Nat → Nat} (hd : d ≤ 16) (he : ∀ i, i < d → e i < 1000) (hb : b < 1000) (k : Int32 → Int32 → tj_S → Option tj_S) : ∀ m x n (u : tj_S), x + 1 + m = d → u 0 5 = nI d → (∀ i, x < i → i < d → u 5 i = nI (e i) ∧ e i ≠ b) → f_Mod_clean_L4 (nI b) k (n + m + 1) (nI x) (nI (x + 1)) u = k (nI (d - 1)) (nI d) (st2 u 5 (fun i => if x ≤ i ∧ i < d - 1 then u 5 (i + 1) else u 5 i)) := by
  intro m
  induction m with
  | zero =>
    intro x n u h h5 hu
    rw [f_Mod_clean_L4, h5, if_pos (by rw [le_n (by omega) (by omega)]; omega), show x = d - 1 by omega, show d - 1 + 1 = d by omega]
    congr 1
    funext a
    by_cases q : a = 5
    · subst q; rw [st2_eq]; funext i; rw [if_neg (by omega)]
    · rw [st2_ne q]
  | succ m ih =>
    intro x n u h h5 hu
    obtain ⟨w1, w2⟩ := hu (x + 1) (by omega) (by omega)
    have hei := he (x + 1) (by omega)
    rw [show n + (m + 1) + 1 = (n + m + 1) + 1 by omega, f_Mod_clean_L4, h5, if_neg (by rw [le_n (by omega) (by omega)]; omega), gd_in (by omega) (by omega), cl_n (by omega)]
    rw [if_neg (by rw [w1, eq_n (by omega) (by omega)]; exact w2), gd_in (by omega) (by omega), gd_in (by omega) (by omega), nm_s, nm_s, nm_s, cl_n (by omega), nI_s, nI_s]
    rw [ih (x + 1) n (up2 u 5 x (u 5 (x + 1))) (by omega) (by rw [up2_ne (by omega)]; exact h5) (fun i h1 h2 => by rw [up2_o (by omega)]; exact hu i (by omega) h2)]
    congr 1
    funext a
    by_cases q : a = 5
    · subst q; rw [st2_eq, st2_eq]; funext i
      by_cases q1 : i = x
      · subst q1; rw [if_neg (by omega), if_pos (by omega), up2_at]
      · by_cases q2 : x ≤ i ∧ i < d - 1
        · rw [if_pos (by omega), if_pos q2, up2_o (by omega)]
        · rw [if_neg (by omega), if_neg q2, up2_o q1]
    · rw [st2_ne q, st2_ne q, up2_ne q]
/-- the block is taken out of the dirty list, on both sides -/
theorem mc_spec {s t : tj_S} {d b : Nat} {e : Nat → Nat} (h : rDir s t d e) (hb : b < 1000) : ∃ (d1 : Nat) (e1 : Nat → Nat) (s1 t1 : tj_S), f_Mem_makeClean (nI b) s = some s1 ∧ f_Mod_clean (nI b) t = some t1 ∧ rDir s1 t1 d1 e1 ∧ sDir s s1 ∧ tDir t t1 ∧ (∀ i, i < d1 → ∃ j, j < d ∧ e1 i = e j ∧ e j ≠ b) ∧ ((∃ j, j < d ∧ e j = b) → d1 + 1 = d) := by
  obtain ⟨hd, h2, h5, hE, hI⟩ := h
  obtain ⟨j, hj, hj1, hj2⟩ := first_of e b d
  have he : ∀ i, i < d → e i < 1000 := fun i hi => by have := (hE i hi).2.2.2; omega
  have pl := dpl_spec (b := b) hd h2 (fun i hi => (hE i hi).1) he hb hj hj1 hj2
  have c1 := cl_1 (t := t) (b := b) hd h5 (fun i hi => (hE i hi).2.1) he hb hj hj1 (fun x17 x18 s19 => nm (up2 s19 0 5 x17) fun s20 => some s20) j 0 (100 - j) (by omega)
  unfold f_Mem_makeClean f_Mod_clean
  rw [pl, bd_s, h2]
  rw [show 100 - j + j = 100 by omega] at c1
  by_cases q : j = d
  · rw [if_pos (by rw [q])]
    refine ⟨d, e, s, t, rfl, ?_, ⟨hd, h2, h5, hE, hI⟩, ⟨fun a _ _ => rfl, fun i _ => rfl⟩, ⟨fun a _ _ => rfl, fun i _ => rfl⟩, fun i hi => ⟨i, hi, rfl, hj1 i (by omega)⟩, fun ⟨i, hi, q2⟩ => absurd q2 (hj1 i (by omega))⟩
    refine Eq.trans c1 ?_
    rw [show 100 - j = (99 - j) + 1 by omega, f_Mod_clean_L4, h5, if_pos (by rw [le_n (by omega) (by omega)]; omega), nm_s, q, ← h5, up2_self]
  · have hjd : j < d := by omega
    rw [if_neg (by rw [eq_n (by omega) (by omega)]; exact q), nm_s]
    have e2 : (nI d - 1 : Int32) = nI (d - 1) := pk_sub (b := 1) (by omega)
    rw [e2, up2_at]
    have e3 : (nI (d - 1) - nI j : Int32) = nI (d - 1 - j) := pk_sub (by omega)
    rw [e3, nI_1]
    have hcp : cpb (nI (j + 1)) (nI j) (nI (d - 1 - j)) 16 16 = true := by
      unfold cpb
      rw [cl_n (by omega), cl_n (by omega), cl_n (by omega)]
      simp only [nI_pos (show j + 1 < 2 ^ 31 by omega), nI_pos (show j < 2 ^ 31 by omega), nI_pos (show d - 1 - j < 2 ^ 31 by omega)]
      simp
      omega
    rw [gd_t hcp, nm_s, cl_n (by omega), cl_n (by omega), cl_n (by omega)]
    have q3 : t 5 j = nI b := by rw [(hE j hjd).2.1, hj2 hjd]
    have c2 := cl_2 (b := b) (e := e) hd he hb (fun x17 x18 s19 => nm (up2 s19 0 5 x17) fun s20 => some s20) (d - 1 - j) j (99 - j - (d - 1 - j) - 1) t (by omega) h5 (fun i h1 h2 => ⟨(hE i h2).2.1, fun q4 => by have := hI i j h2 hjd (by rw [q4, hj2 hjd]); omega⟩)
    refine ⟨d - 1, fun i => if i < j then e i else e (i + 1), _, _, rfl, Eq.trans c1 (Eq.trans ?_ c2), ⟨by omega, ?_, ?_, ?_, ?_⟩, ⟨?_, ?_⟩, ⟨?_, ?_⟩, ?_, fun _ => by omega⟩
    · rw [show 100 - j = (99 - j - (d - 1 - j) - 1 + (d - 1 - j) + 1) + 1 by omega, f_Mod_clean_L4, h5, if_neg (by rw [le_n (by omega) (by omega)]; omega), gd_in (by omega) (by omega), cl_n (by omega), if_pos q3, nm_s, nI_s]
    · rw [st2_ne (by omega), up2_at]
    · rw [up2_at]
    · intro i hi
      rw [st2_eq, up2_ne (by omega), up2_ne (by omega), st2_eq]
      unfold va_cpy
      dsimp only
      by_cases q5 : i < j
      · rw [if_neg (by omega), if_pos q5, if_neg (by omega)]
        exact hE i (by omega)
      · rw [if_pos (by omega), if_neg q5, if_pos (by omega), show j + 1 + (i - j) = i + 1 by omega]
        exact hE (i + 1) (by omega)
    · intro i k hi hk
      dsimp only
      intro q6
      split at q6 <;> split at q6
      · exact hI i k (by omega) (by omega) q6
      · have := hI i (k + 1) (by omega) (by omega) q6; omega
      · have := hI (i + 1) k (by omega) (by omega) q6; omega
      · have := hI (i + 1) (k + 1) (by omega) (by omega) q6; omega
    · intro a h1 h2; rw [st2_ne h2, up2_ne h1]
    · intro i hi; rw [st2_ne (by omega), up2_o hi]
    · intro a h1 h2; rw [up2_ne h1, st2_ne h2]
    · intro i hi; rw [up2_o hi, st2_ne (by omega)]
    · intro i hi
      dsimp only
      by_cases q5 : i < j
      · exact ⟨i, by omega, by rw [if_pos q5], hj1 i q5⟩
      · refine ⟨i + 1, by omega, by rw [if_neg q5], fun q6 => ?_⟩
        have := hI (i + 1) j (by omega) hjd (by rw [q6, hj2 hjd]); omega
