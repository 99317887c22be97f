def entf (u : tj_S) (c b : Nat) : tj_S := fun a => if a = 6 then (fun i => if 23 * c + b ≤ i ∧ i < 23 * c + 23 then u 3 (i - 23 * c) else u 6 i) else if a = 7 then (fun i => if 23 * c + b ≤ i ∧ i < 23 * c + 23 then u 4 (i - 23 * c) else u 7 i) else if a = 3 then (fun i => if b ≤ i ∧ i < 23 then 0 else u 3 i) else if a = 4 then (fun i => if b ≤ i ∧ i < 23 then 0 else u 4 i) else u a
theorem ent_6 {u : tj_S} {c b : Nat} : entf u c b 6 = fun i => if 23 * c + b ≤ i ∧ i < 23 * c + 23 then u 3 (i - 23 * c) else u 6 i := rfl
theorem ent_7 {u : tj_S} {c b : Nat} : entf u c b 7 = fun i => if 23 * c + b ≤ i ∧ i < 23 * c + 23 then u 4 (i - 23 * c) else u 7 i := rfl
theorem ent_3 {u : tj_S} {c b : Nat} : entf u c b 3 = fun i => if b ≤ i ∧ i < 23 then 0 else u 3 i := rfl
theorem ent_4 {u : tj_S} {c b : Nat} : entf u c b 4 = fun i => if b ≤ i ∧ i < 23 then 0 else u 4 i := rfl
theorem ent_o {u : tj_S} {c b a : Nat} (h6 : a ≠ 6) (h7 : a ≠ 7) (h3 : a ≠ 3) (h4 : a ≠ 4) : entf u c b a = u a := by
  unfold entf; rw [if_neg h6, if_neg h7, if_neg h3, if_neg h4]
theorem en2_L {c : Nat} (hc : c < 8) (y : Int32) (k : Int32 → tj_S → Option tj_S) : ∀ m b n (u : tj_S), b + m = 23 → u 0 10 = nI c → (∀ i, i < 23 → (u 3 i = 0 ∨ u 3 i = 1) ∧ (u 4 i = 0 ∨ u 4 i = 1)) → f_Mod_enter_L2 y k (n + m + 1) (nI b) u = k (nI 23) (entf u c b) := by
  intro m
  induction m with
  | zero =>
    intro b n u h h10 h01
    have : b = 23 := by omega
    subst this
    rw [f_Mod_enter_L2, if_pos (by decide)]
    congr 1
    funext a
    unfold entf
    split
    · next q => subst q; funext i; rw [if_neg (by omega)]
    · split
      · next q => subst q; funext i; rw [if_neg (by omega)]
      · split
        · next q => subst q; funext i; rw [if_neg (by omega)]
        · split
          · next q => subst q; funext i; rw [if_neg (by omega)]
          · rfl
  | succ m ih =>
    intro b n u h h10 h01
    obtain ⟨v3, v4⟩ := h01 b (by omega)
    rw [show n + (m + 1) + 1 = (n + m + 1) + 1 by omega, f_Mod_enter_L2, if_neg (by rw [show ((23 : Int32) ≤ nI b) = (23 ≤ b) from le_n (a := 23) (by omega) (by omega)]; omega)]
    rw [h10, ad23, gd_in (by omega) (by omega), gd_in (by omega) (by omega), nm_s, gd_in (by omega) (by omega), up2_ne (show 0 ≠ 6 by omega), h10, ad23, gd_in (by omega) (by omega), nm_s, gd_in (by omega) (by omega), nm_s, gd_in (by omega) (by omega), nm_s, nm_s, cl_n (by omega), cl_n (by omega), nI_s, vn01 v3, up2_ne (show 4 ≠ 6 by omega), vn01 v4, vn01 (Or.inl rfl)]
    generalize hu2 : up2 (up2 (up2 (up2 u 6 (23 * c + b) (u 3 b)) 7 (23 * c + b) (u 4 b)) 3 b 0) 4 b 0 = u2
    have w4 : u2 4 = upd (u 4) b 0 := by rw [← hu2, up2_eq, up2_ne (by omega), up2_ne (by omega), up2_ne (by omega)]
    have w3 : u2 3 = upd (u 3) b 0 := by rw [← hu2, up2_ne (by omega), up2_eq, up2_ne (by omega), up2_ne (by omega)]
    have w7 : u2 7 = upd (u 7) (23 * c + b) (u 4 b) := by rw [← hu2, up2_ne (by omega), up2_ne (by omega), up2_eq, up2_ne (by omega)]
    have w6 : u2 6 = upd (u 6) (23 * c + b) (u 3 b) := by rw [← hu2, up2_ne (by omega), up2_ne (by omega), up2_ne (by omega), up2_eq]
    have wo : ∀ a, a ≠ 6 → a ≠ 7 → a ≠ 3 → a ≠ 4 → u2 a = u a := fun a h6 h7 h3 h4 => by rw [← hu2, up2_ne h4, up2_ne h3, up2_ne h7, up2_ne h6]
    rw [ih (b + 1) n u2 (by omega) (by rw [wo 0 (by omega) (by omega) (by omega) (by omega)]; exact h10) (fun i hi => by
      rw [w3, w4]
      by_cases q : i = b
      · subst q; exact ⟨Or.inl (if_pos rfl), Or.inl (if_pos rfl)⟩
      · rw [show upd (u 3) b 0 i = u 3 i from if_neg q, show upd (u 4) b 0 i = u 4 i from if_neg q]; exact h01 i hi)]
    congr 1
    funext a
    by_cases q6 : a = 6
    · subst q6; rw [ent_6, ent_6, w3, w6]; funext i
      unfold upd
      by_cases q1 : i = 23 * c + b
      · subst q1; rw [if_neg (by omega), if_pos rfl, if_pos (by omega), show 23 * c + b - 23 * c = b by omega]
      · by_cases q2 : 23 * c + b ≤ i ∧ i < 23 * c + 23
        · rw [if_pos (by omega), if_pos q2, if_neg (by omega)]
        · rw [if_neg (by omega), if_neg q2, if_neg q1]
    by_cases q7 : a = 7
    · subst q7; rw [ent_7, ent_7, w4, w7]; funext i
      unfold upd
      by_cases q1 : i = 23 * c + b
      · subst q1; rw [if_neg (by omega), if_pos rfl, if_pos (by omega), show 23 * c + b - 23 * c = b by omega]
      · by_cases q2 : 23 * c + b ≤ i ∧ i < 23 * c + 23
        · rw [if_pos (by omega), if_pos q2, if_neg (by omega)]
        · rw [if_neg (by omega), if_neg q2, if_neg q1]
    by_cases q3 : a = 3
    · subst q3; rw [ent_3, ent_3, w3]; funext i
      unfold upd
      by_cases q1 : i = b
      · subst q1; rw [if_neg (by omega), if_pos rfl, if_pos (by omega)]
      · by_cases q2 : b ≤ i ∧ i < 23
        · rw [if_pos (by omega), if_pos q2]
        · rw [if_neg (by omega), if_neg q2, if_neg q1]
    by_cases q4 : a = 4
    · subst q4; rw [ent_4, ent_4, w4]; funext i
      unfold upd
      by_cases q1 : i = b
      · subst q1; rw [if_neg (by omega), if_pos rfl, if_pos (by omega)]
      · by_cases q2 : b ≤ i ∧ i < 23
        · rw [if_pos (by omega), if_pos q2]
        · rw [if_neg (by omega), if_neg q2, if_neg q1]
    rw [ent_o q6 q7 q3 q4, ent_o q6 q7 q3 q4, wo a q6 q7 q3 q4]
theorem en70_L {c : Nat} (hc : c < 8) (y : Int32) (k : Int32 → tj_S → Option tj_S) : ∀ m b n (u : tj_S), b + m = 92 → u 0 10 = nI c → f_Mod_enter_L70 y k (n + m + 1) (nI b) u = k (nI 92) (st2 u 8 (fun i => if 92 * c + b ≤ i ∧ i < 92 * c + 92 then u 2 (i - 92 * c) else u 8 i)) := by
  intro m
  induction m with
  | zero =>
    intro b n u h h10
    have : b = 92 := by omega
    subst this
    rw [f_Mod_enter_L70, if_pos (by decide)]
    congr 1
    funext a
    by_cases q : a = 8
    · subst q; rw [st2_eq]; funext i; rw [if_neg (by omega)]
    · rw [st2_ne q]
  | succ m ih =>
    intro b n u h h10
    rw [show n + (m + 1) + 1 = (n + m + 1) + 1 by omega, f_Mod_enter_L70, if_neg (by rw [show ((92 : Int32) ≤ nI b) = (92 ≤ b) from le_n (a := 92) (by omega) (by omega)]; omega)]
    rw [h10, ad92, gd_in (by omega) (by omega), gd_in (by omega) (by omega), nm_s, nm_s, cl_n (by omega), cl_n (by omega), nI_s, ih (b + 1) n _ (by omega) (by rw [up2_ne (by omega)]; exact h10)]
    congr 1
    funext a
    by_cases q : a = 8
    · subst q; rw [st2_eq, st2_eq]; funext i
      rw [up2_ne (show 2 ≠ 8 by omega)]
      by_cases q1 : i = 92 * c + b
      · subst q1; rw [if_neg (by omega), if_pos (by omega), up2_at, show 92 * c + b - 92 * c = b by omega]
      · by_cases q2 : 92 * c + b ≤ i ∧ i < 92 * c + 92
        · rw [if_pos (by omega), if_pos q2]
        · rw [if_neg (by omega), if_neg q2, up2_o q1]
    · rw [st2_ne q, st2_ne q, up2_ne q]
theorem md24 {p n : Nat} (h : p + n < 2 ^ 31) : (nI p + nI n - (nI p + nI n) / 24 * 24 : Int32) = nI ((p + n) % 24) := by
  rw [nI_add]; exact pk_rem (d := 24) h (by omega) (by omega)
theorem en_spec {t : tj_S} {c n P : Nat} (hc : c < 8) (hn : n ≤ 24) (hP : P < 24) (h10 : t 0 10 = nI c) (h11 : t 0 11 = nI P) (h01 : ∀ i, i < 23 → (t 3 i = 0 ∨ t 3 i = 1) ∧ (t 4 i = 0 ∨ t 4 i = 1)) : ∃ t1, f_Mod_enter (nI n) t = some t1 ∧ (∀ a, a ≠ 0 → a ≠ 3 → a ≠ 4 → a ≠ 6 → a ≠ 7 → a ≠ 8 → a ≠ 9 → t1 a = t a) ∧ (∀ i, i < 23 → t1 3 i = 0 ∧ t1 4 i = 0) ∧ (∀ i, t1 6 i = if 23 * c ≤ i ∧ i < 23 * c + 23 then t 3 (i - 23 * c) else t 6 i) ∧ (∀ i, t1 7 i = if 23 * c ≤ i ∧ i < 23 * c + 23 then t 4 (i - 23 * c) else t 7 i) ∧ (∀ i, t1 8 i = if 92 * c ≤ i ∧ i < 92 * c + 92 then t 2 (i - 92 * c) else t 8 i) ∧ (∀ i, t1 9 i = if i = c then nI n else t 9 i) ∧ t1 0 10 = nI (c + 1) ∧ t1 0 11 = nI ((P + n) % 24) ∧ t1 0 16 = t 2 24 ∧ ∀ i, i ≠ 10 → i ≠ 11 → i ≠ 16 → t1 0 i = t 0 i := by
  unfold f_Mod_enter
  have l1 := en2_L hc (nI n) (fun x18 s19 =>
    f_Mod_enter_L70 (nI n) (fun x30 s31 =>
      gd (inb (s31 0 10) 8) <|
      nm (up2 s31 9 (Int32.toNatClampNeg (s31 0 10)) (nI n)) fun s33 =>
      nm (up2 s33 0 10 ((s33 0 10) + (1 : Int32))) fun s34 =>
      nm (up2 s34 0 11 (((s34 0 11) + (nI n)) - ((s34 0 11) + (nI n)) / (24 : Int32) * (24 : Int32))) fun s35 =>
      gd (inb (24 : Int32) 92) <|
      nm (up2 s35 0 16 (s35 2 (Int32.toNatClampNeg (24 : Int32)))) fun s37 =>
      some s37) 100 (0 : Int32) s19) 23 0 76 t (by omega) h10 h01
  rw [show (76 + 23 + 1 : Nat) = 100 from rfl] at l1
  rw [show (0 : Int32) = nI 0 from rfl] at l1 ⊢
  rw [l1]
  generalize hu : entf t c 0 = u
  have u0 : u 0 = t 0 := by rw [← hu, ent_o (by omega) (by omega) (by omega) (by omega)]
  have l2 := en70_L hc (nI n) (fun x30 s31 =>
      gd (inb (s31 0 10) 8) <|
      nm (up2 s31 9 (Int32.toNatClampNeg (s31 0 10)) (nI n)) fun s33 =>
      nm (up2 s33 0 10 ((s33 0 10) + (1 : Int32))) fun s34 =>
      nm (up2 s34 0 11 (((s34 0 11) + (nI n)) - ((s34 0 11) + (nI n)) / (24 : Int32) * (24 : Int32))) fun s35 =>
      gd (inb (24 : Int32) 92) <|
      nm (up2 s35 0 16 (s35 2 (Int32.toNatClampNeg (24 : Int32)))) fun s37 =>
      some s37) 92 0 7 u (by omega) (by rw [u0]; exact h10)
  rw [show (7 + 92 + 1 : Nat) = 100 from rfl] at l2
  rw [l2]
  generalize hv : st2 u 8 (fun i => if 92 * c + 0 ≤ i ∧ i < 92 * c + 92 then u 2 (i - 92 * c) else u 8 i) = v
  have v0 : v 0 = t 0 := by rw [← hv, st2_ne (by omega), u0]
  rw [v0, h10, gd_in (by omega) (by omega), nm_s, nm_s, nm_s, cl_n (by omega), up2_ne (show 0 ≠ 9 by omega), v0, h10, nI_1, up2_o (show 11 ≠ 10 by omega), up2_ne (show 0 ≠ 9 by omega), v0, h11, md24 (by omega), gd_t (show inb (24 : Int32) 92 = true from by decide +kernel), nm_s, show (24 : Int32).toNatClampNeg = 24 from by decide +kernel]
  generalize ht1 : up2 (up2 (up2 (up2 v 9 c (nI n)) 0 10 (nI (c + 1))) 0 11 (nI ((P + n) % 24))) 0 16 _ = t1
  have u2 : u 2 = t 2 := by rw [← hu, ent_o (by omega) (by omega) (by omega) (by omega)]
  have v2 : v 2 = t 2 := by rw [← hv, st2_ne (by omega), u2]
  have to : ∀ a, a ≠ 0 → a ≠ 9 → t1 a = v a := fun a h0 h9 => by rw [← ht1, up2_ne h0, up2_ne h0, up2_ne h0, up2_ne h9]
  refine ⟨t1, rfl, fun a h0 h3 h4 h6 h7 h8 h9 => ?_, fun i hi => ⟨?_, ?_⟩, fun i => ?_, fun i => ?_, fun i => ?_, fun i => ?_, ?_, ?_, ?_, fun i x1 x2 x3 => ?_⟩
  · rw [to a h0 h9, ← hv, st2_ne h8, ← hu, ent_o h6 h7 h3 h4]
  · rw [to 3 (by omega) (by omega), ← hv, st2_ne (by omega), ← hu, ent_3]; exact if_pos (by omega)
  · rw [to 4 (by omega) (by omega), ← hv, st2_ne (by omega), ← hu, ent_4]; exact if_pos (by omega)
  · rw [to 6 (by omega) (by omega), ← hv, st2_ne (by omega), ← hu, ent_6]; rfl
  · rw [to 7 (by omega) (by omega), ← hv, st2_ne (by omega), ← hu, ent_7]; rfl
  · rw [to 8 (by omega) (by omega), ← hv, st2_eq, u2, ← hu, ent_o (by omega) (by omega) (by omega) (by omega)]; rfl
  · rw [← ht1, up2_ne (by omega), up2_ne (by omega), up2_ne (by omega), up2_eq]
    unfold upd
    rw [← hv, st2_ne (by omega), ← hu, ent_o (by omega) (by omega) (by omega) (by omega)]
  · rw [← ht1, up2_o (by omega), up2_o (by omega), up2_at]
  · rw [← ht1, up2_o (by omega), up2_at]
  · rw [← ht1, up2_at, up2_ne (by omega), up2_ne (by omega), up2_ne (by omega), v2]
  · rw [← ht1, up2_o x3, up2_o x2, up2_o x1, up2_ne (by omega), v0]
theorem ap_spec {s : tj_S} {o c n A : Nat} {f : Nat → Int32} (ho : o < 8) (hc : c < 8) (hn : n ≤ 24) (hA : cn f 23 + cn f 23 / 4 + 1 ≤ 24) (h46 : s 4 6 = nI c) (h45 : s 4 5 = nI o) (h47 : s 4 7 = nI (A % 24)) (hm : mk (s 10 3) f) : ∃ s1, f_Log_append_10 (nI n) s = some s1 ∧ (∀ a, a ≠ 4 → a ≠ 5 → a ≠ 6 → a ≠ 7 → a ≠ 8 → a ≠ 9 → s1 a = s a) ∧ s1 4 6 = nI (c + 1) ∧ s1 4 5 = nI o ∧ s1 4 7 = nI ((A % 24 + n) % 24) ∧ (∀ j, s1 6 j = if j = (o + c) % 8 then nI (A % 24) else s 6 j) ∧ (∀ j, s1 7 j = if j = (o + c) % 8 then nI n else s 7 j) ∧ (∀ j, s1 8 j = if j = (o + c) % 8 then s 10 3 else s 8 j) ∧ (∀ j, s1 9 j = if j = (o + c) % 8 then s 10 4 else s 9 j) ∧ (∀ b, b < 23 → f b = 1 → ∀ w, w < 4 → s1 5 (4 * psn A f b + w) = s 11 (4 * b + w)) ∧ (∀ i, (∀ b, b < 23 → f b = 1 → i / 4 ≠ psn A f b) → s1 5 i = s 5 i) := by
  unfold f_Log_append_10
  rw [nm_s, h46, nm_s, nI_1]
  have sl : ∀ u : tj_S, u 4 5 = nI o → f_Log_slot (nI c) u = some (nI ((o + c) % 8), u) := fun u hu => sl_spec hu (by omega) (by omega)
  have hlt : (o + c) % 8 < 8 := Nat.mod_lt _ (by omega)
  generalize hJ : (o + c) % 8 = J at *
  rw [sl _ (by rw [up2_o (by omega)]; exact h45), bd_s, gd_in hlt (by omega), nm_s, cl_n (by omega)]
  rw [sl _ (by rw [up2_ne (by omega), up2_o (by omega)]; exact h45), bd_s, gd_in hlt (by omega), nm_s, cl_n (by omega)]
  rw [sl _ (by rw [up2_ne (by omega), up2_ne (by omega), up2_o (by omega)]; exact h45), bd_s, gd_in hlt (by omega), nm_s, cl_n (by omega)]
  rw [sl _ (by rw [up2_ne (by omega), up2_ne (by omega), up2_ne (by omega), up2_o (by omega)]; exact h45), bd_s, gd_in hlt (by omega), nm_s, cl_n (by omega)]
  rw [up2_o (show 7 ≠ 6 by omega), h47]
  generalize hu : up2 (up2 (up2 (up2 (up2 s 4 6 (nI (c + 1))) 6 J (nI (A % 24))) 7 J (nI n)) 8 J _) 9 J _ = u
  have uo : ∀ a, a ≠ 4 → a ≠ 6 → a ≠ 7 → a ≠ 8 → a ≠ 9 → u a = s a := fun a h4 h6 h7 h8 h9 => by rw [← hu, up2_ne h9, up2_ne h8, up2_ne h7, up2_ne h6, up2_ne h4]
  have u4 : ∀ i, i ≠ 6 → u 4 i = s 4 i := fun i hi => by rw [← hu, up2_ne (by omega), up2_ne (by omega), up2_ne (by omega), up2_ne (by omega), up2_o hi]
  have u46 : u 4 6 = nI (c + 1) := by rw [← hu, up2_ne (by omega), up2_ne (by omega), up2_ne (by omega), up2_ne (by omega), up2_at]
  have u6 : ∀ j, u 6 j = if j = J then nI (A % 24) else s 6 j := fun j => by rw [← hu, up2_ne (by omega), up2_ne (by omega), up2_ne (by omega), up2_eq, up2_ne (by omega)]; rfl
  have u7 : ∀ j, u 7 j = if j = J then nI n else s 7 j := fun j => by rw [← hu, up2_ne (by omega), up2_ne (by omega), up2_eq, up2_ne (by omega), up2_ne (by omega)]; rfl
  have u8 : ∀ j, u 8 j = if j = J then s 10 3 else s 8 j := fun j => by rw [← hu, up2_ne (by omega), up2_eq, up2_ne (by omega), up2_ne (by omega), up2_ne (by omega), up2_ne (show 10 ≠ 7 by omega), up2_ne (show 10 ≠ 6 by omega), up2_ne (show 10 ≠ 4 by omega)]; rfl
  have u9 : ∀ j, u 9 j = if j = J then s 10 4 else s 9 j := fun j => by rw [← hu, up2_eq, up2_ne (by omega), up2_ne (by omega), up2_ne (by omega), up2_ne (by omega), up2_ne (show 10 ≠ 8 by omega), up2_ne (show 10 ≠ 7 by omega), up2_ne (show 10 ≠ 6 by omega), up2_ne (show 10 ≠ 4 by omega)]; rfl
  obtain ⟨s1, w1, w2, w3, w4⟩ := ap_L (o := o) (k := c) (A := A) (f := f) ho (by omega) hA (nI n) (fun x41 s42 =>
    nm (up2 s42 4 7 (((s42 4 7) + (nI n)) - ((s42 4 7) + (nI n)) / (24 : Int32) * (24 : Int32))) fun s43 =>
    some s43) 23 0 76 u (by omega) (by rw [u4 5 (by omega)]; exact h45) (by rw [hJ, u8, if_pos rfl]; exact hm) (by rw [hJ, u6, if_pos rfl]) (by rw [uo 10 (by omega) (by omega) (by omega) (by omega) (by omega)]; exact hm)
  rw [show (76 + 23 + 1 : Nat) = 100 from rfl] at w1
  rw [show (0 : Int32) = nI 0 from rfl, w1, nm_s, w2 4 (by omega), u4 7 (by omega), h47, md24 (by omega)]
  refine ⟨_, rfl, fun a h4 h5 h6 h7 h8 h9 => ?_, ?_, ?_, ?_, fun j => ?_, fun j => ?_, fun j => ?_, fun j => ?_, fun b hb hf w hw => ?_, fun i hi => ?_⟩
  · rw [up2_ne h4, w2 a h5, uo a h4 h6 h7 h8 h9]
  · rw [up2_o (by omega), w2 4 (by omega), u46]
  · rw [up2_o (by omega), w2 4 (by omega), u4 5 (by omega), h45]
  · rw [up2_at]
  · rw [up2_ne (by omega), w2 6 (by omega), u6]
  · rw [up2_ne (by omega), w2 7 (by omega), u7]
  · rw [up2_ne (by omega), w2 8 (by omega), u8]
  · rw [up2_ne (by omega), w2 9 (by omega), u9]
  · rw [up2_ne (by omega), w3 b (Nat.zero_le _) hb hf w hw, uo 11 (by omega) (by omega) (by omega) (by omega) (by omega)]
  · rw [up2_ne (by omega), w4 i (fun b _ hb hf => hi b hb hf), uo 5 (by omega) (by omega) (by omega) (by omega) (by omega)]
