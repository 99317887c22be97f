theorem pop_imp {p q : Nat → Bool} {j : Nat} : ∀ n, (∀ i, i < n → i ≠ j → p i = true → q i = true) → popN p n ≤ popN q n + (if j < n then 1 else 0)
  | 0, _ => by simp [popN]
  | n + 1, h => by
    have ih := pop_imp (j := j) n (fun i hi => h i (by omega))
    show popN p n + (p n).toNat ≤ popN q n + (q n).toNat + _
    by_cases e : n = j
    · subst e
      rw [if_neg (Nat.lt_irrefl _)] at ih
      rw [if_pos (show n < n + 1 by omega)]
      have : (p n).toNat ≤ 1 := by cases p n <;> simp
      omega
    · have h1 : (p n).toNat ≤ (q n).toNat := by
        cases hp : p n
        · simp
        · rw [h n (by omega) e hp]; exact Nat.le_refl _
      by_cases y : j < n
      · rw [if_pos y] at ih; rw [if_pos (show j < n + 1 by omega)]; omega
      · rw [if_neg y] at ih; rw [if_neg (show ¬ j < n + 1 by omega)]; omega
theorem inj_le : ∀ n d (e : Nat → Nat), (∀ i, i < d → e i < n) → (∀ i j, i < d → j < d → e i = e j → i = j) → d ≤ n
  | 0, d, e, h, _ => by
    rcases Nat.eq_zero_or_pos d with q | q
    · omega
    · exact absurd (h 0 q) (by omega)
  | n + 1, d, e, h, hi => by
    obtain ⟨j, h1, h2, h3⟩ := first_of e n d
    by_cases q : j < d
    · have ej := h3 q
      have := inj_le n (d - 1) (fun i => if i < j then e i else e (i + 1)) (fun i hi1 => by
        by_cases y : i < j
        · rw [if_pos y]; have := h i (by omega); have := h2 i y; omega
        · rw [if_neg y]; have := h (i + 1) (by omega)
          have : e (i + 1) ≠ n := fun z => by have := hi (i + 1) j (by omega) q (by rw [z, ej]); omega
          omega) (fun i k hi1 hk1 z => by
        split at z <;> split at z
        · exact hi i k (by omega) (by omega) z
        · have := hi i (k + 1) (by omega) (by omega) z; omega
        · have := hi (i + 1) k (by omega) (by omega) z; omega
        · have := hi (i + 1) (k + 1) (by omega) (by omega) z; omega)
      omega
    · have := inj_le n d e (fun i hi1 => by have := h i hi1; have := h2 i (by omega); omega) hi
      omega
theorem dir_lt {d b : Nat} {e : Nat → Nat} (h7 : 7 ≤ b) (hb : b < 23) (he : ∀ i, i < d → 7 ≤ e i ∧ e i < 23) (hi : ∀ i j, i < d → j < d → e i = e j → i = j) (hn : ∀ i, i < d → e i ≠ b) : d < 16 := by
  have := inj_le 16 (d + 1) (fun i => if i < d then e i - 7 else b - 7) (fun i _ => by
    by_cases y : i < d
    · rw [if_pos y]; have := he i y; omega
    · rw [if_neg y]; omega) (fun i j hi1 hj1 z => by
    split at z <;> split at z
    · next y1 y2 => have := he i y1; have := he j y2; exact hi i j y1 y2 (by omega)
    · next y1 y2 => have := he i y1; exact absurd (by omega) (hn i y1)
    · next y1 y2 => have := he j y2; exact absurd (by omega) (hn j y2)
    · omega)
  omega
theorem isd_L {t : tj_S} {d b j : Nat} {e : Nat → Nat} (hd : d ≤ 16) (h5 : t 0 5 = nI d) (h12 : ∀ i, i < d → t 5 i = nI (e i)) (he : ∀ i, i < d → e i < 1000) (hb : b < 1000) (hj : j ≤ d) (hj1 : ∀ i, i < j → e i ≠ b) (hj2 : j < d → e j = b) (k : Int32 → tj_S → Option (Int32 × tj_S)) : ∀ n i, i ≤ j → j - i < n → f_Mod_isDirty_L2 (nI b) k n (nI i) t = if j < d then some (1, t) else k (nI d) t := by
  intro n
  induction n with
  | zero => intro i hi hn; omega
  | succ n ih =>
    intro i hi hn
    rw [f_Mod_isDirty_L2, h5]
    by_cases q : i = d
    · have : i = j := by omega
      rw [if_pos (by rw [le_n (by omega) (by omega)]; omega), if_neg (by omega), q]
    · rw [if_neg (by rw [le_n (by omega) (by omega)]; omega), gd_in (by omega) (by omega), cl_n (by omega), h12 i (by omega)]
      have hei := he i (by omega)
      by_cases q2 : i = j
      · rw [if_pos (by rw [q2, hj2 (by omega)]), if_pos (by omega)]
      · rw [if_neg (by rw [eq_n (by omega) (by omega)]; exact hj1 i (by omega)), nm_s, nI_s]
        exact ih (i + 1) (by omega) (by omega)
theorem isd_spec {t : tj_S} {d b j : Nat} {e : Nat → Nat} (hd : d ≤ 16) (h5 : t 0 5 = nI d) (h12 : ∀ i, i < d → t 5 i = nI (e i)) (he : ∀ i, i < d → e i < 1000) (hb : b < 1000) (hj : j ≤ d) (hj1 : ∀ i, i < j → e i ≠ b) (hj2 : j < d → e j = b) : f_Mod_isDirty (nI b) t = some (if j < d then 1 else 0, t) := by
  have h := isd_L hd h5 h12 he hb hj hj1 hj2 (fun x10 s11 => some ((0 : Int32), s11)) 100 0 (by omega) (by omega)
  refine Eq.trans h ?_
  split <;> rfl
/-- the reference makes a block dirty -/
def dtK (x : Int32) (s18 : tj_S) : Option (Int32 × tj_S) :=
  bd (f_Mod_isDirty x s18) fun r21 s20 =>
  if r21 = (0 : Int32) then
    gd (inb (s20 0 5) 16) <|
    nm (up2 s20 5 (Int32.toNatClampNeg (s20 0 5)) x) fun s23 =>
    nm (up2 s23 0 5 ((s23 0 5) + (1 : Int32))) fun s24 =>
    some ((1 : Int32), s24)
  else
    some ((1 : Int32), s20)
theorem md_spec {s t : tj_S} {d b : Nat} {e : Nat → Nat} (h : rDir s t d e) (h7 : 7 ≤ b) (hb : b < 23) : ∃ (d1 : Nat) (e1 : Nat → Nat) (s1 t1 : tj_S), f_Mem_makeDirty (nI b) s = some s1 ∧ dtK (nI b) t = some (1, t1) ∧ rDir s1 t1 d1 e1 ∧ sDir s s1 ∧ tDir t t1 ∧ ∀ i, i < d1 → e1 i = b ∨ ∃ j, j < d ∧ e1 i = e j := by
  obtain ⟨hd, h2, h5, hE, hI⟩ := id h
  obtain ⟨j, hj, hj1, hj2⟩ := first_of e b d
  have he : ∀ i, i < d → e i < 1000 := fun i hi => by have := (hE i hi).2.2.2; omega
  have pl := dpl_spec (b := b) hd h2 (fun i hi => (hE i hi).1) he (by omega) hj hj1 hj2
  have il := isd_spec (t := t) (b := b) hd h5 (fun i hi => (hE i hi).2.1) he (by omega) hj hj1 hj2
  unfold f_Mem_makeDirty dtK
  rw [ip_t h7 hb, bd_s, if_neg h10, pl, bd_s, il, bd_s, h2]
  by_cases q : j < d
  · rw [if_neg (by rw [eq_n (by omega) (by omega)]; omega), if_pos q, if_neg h10]
    exact ⟨d, e, s, t, rfl, rfl, h, ⟨fun _ _ _ => rfl, fun _ _ => rfl⟩, ⟨fun _ _ _ => rfl, fun _ _ => rfl⟩, fun i hi => Or.inr ⟨i, hi, rfl⟩⟩
  · have ej : j = d := by omega
    have hl := dir_lt h7 hb (fun i hi => (hE i hi).2.2) hI (fun i hi => hj1 i (by omega))
    rw [if_pos (by rw [ej]), if_neg (by rw [show ((16 : Int32) ≤ nI d) = (16 ≤ d) from le_n (a := 16) (by omega) (by omega)]; omega), gd_in hl (by omega), nm_s, nm_s, cl_n (by omega), up2_ne (show 10 ≠ 12 by omega), h2]
    rw [if_neg q, if_pos rfl, h5, gd_in hl (by omega), nm_s, nm_s, cl_n (by omega), up2_ne (show 0 ≠ 5 by omega), h5, nI_1]
    refine ⟨d + 1, fun i => if i = d then b else e i, _, _, rfl, rfl, ⟨by omega, by rw [up2_at], by rw [up2_at], fun i hi => ?_, fun i k hi hk z => ?_⟩, ⟨fun a x y => by rw [up2_ne x, up2_ne y], fun i hi => by rw [up2_o hi, up2_ne (by omega)]⟩, ⟨fun a x y => by rw [up2_ne x, up2_ne y], fun i hi => by rw [up2_o hi, up2_ne (by omega)]⟩, fun i hi => ?_⟩
    · dsimp only
      rw [up2_ne (show 12 ≠ 10 by omega), up2_ne (show 5 ≠ 0 by omega), up2_eq, up2_eq]
      by_cases y : i = d
      · rw [y, if_pos rfl, upd_at, upd_at]; exact ⟨rfl, rfl, h7, hb⟩
      · rw [if_neg y, upd_o y, upd_o y]; exact hE i (by omega)
    · dsimp only at z
      by_cases y : i = d
      · by_cases y2 : k = d
        · omega
        · rw [if_pos y, if_neg y2] at z; exact absurd z.symm (hj1 k (by omega))
      · by_cases y2 : k = d
        · rw [if_neg y, if_pos y2] at z; exact absurd z (hj1 i (by omega))
        · rw [if_neg y, if_neg y2] at z; exact hI i k (by omega) (by omega) z
    · dsimp only
      by_cases y : i = d
      · rw [if_pos y]; exact Or.inl rfl
      · rw [if_neg y]; exact Or.inr ⟨i, by omega, rfl⟩
/-- the reference's write once the file is long enough -/
def wrT (a1 a2 a3 : Int32) (s10 : tj_S) : Option (Int32 × tj_S) :=
  bd (f_Mod_cell a1 (a2 / (4 : Int32)) s10) fun r14 s13 =>
  gd (inb r14 92) <|
  nm ((s13 2 (Int32.toNatClampNeg r14))) fun x16 =>
  gd (inb (((4 : Int32) * x16) + (a2 - a2 / (4 : Int32) * (4 : Int32))) 92) <|
  nm (up2 s13 2 (Int32.toNatClampNeg (((4 : Int32) * x16) + (a2 - a2 / (4 : Int32) * (4 : Int32)))) a3) fun s18 =>
  if (s18 0 13) = (2 : Int32) then
    gd (inb x16 23) <|
    nm (up2 s18 3 (Int32.toNatClampNeg x16) (vp_nar .boolean (1 : Int32))) fun s27 =>
    some ((1 : Int32), s27)
  else
    dtK x16 s18
theorem cel_val {w : Nat → Int32} {r : Nat → Nat → Nat} {f i : Nat} (hf : f < 6) (hi : i < 6) (hG : fsG w (r f) f) (h6 : 2 ≤ i → r f 6 ≠ 0) : w (cel r f i) = nI (r f i) ∧ cel r f i < 92 ∧ cel r f i ≠ 24 := by
  obtain ⟨q2, q3, q4, q5, q6, q7⟩ := hG
  unfold cel
  by_cases q : i < 2
  · rw [if_pos q]
    have : i = 0 ∨ i = 1 := by omega
    rcases this with rfl | rfl
    · exact ⟨q2, by omega, by omega⟩
    · exact ⟨q3, by omega, by omega⟩
  · rw [if_neg q]
    have n6 := h6 (by omega)
    have := (q5 6 (by omega)).2 n6
    have := (q5 6 (by omega)).1
    refine ⟨?_, by omega, by omega⟩
    rw [q6 n6 (i - 2) (by omega), show i - 2 + 2 = i by omega]
theorem sd_spec {s t : tj_S} {d : Nat} {e : Nat → Nat} {rf : Nat → Nat → Nat} {f o : Nat} (hf : f < 6) (ho : o < 24) (h : mR s t (t 3) d e rf) (hm : s 0 3 = t 0 13) (hb : rf f (o / 4) ≠ 0) (h6 : 2 ≤ o / 4 → rf f 6 ≠ 0) (v : Int32) : ∃ (d1 : Nat) (e1 : Nat → Nat) (s1 t1 : tj_S), f_X_setDataWord (nI f) (nI o) v s = some s1 ∧ wrT (nI f) (nI o) v t = some (1, t1) ∧ (∀ i, i < 92 → s1 11 i = t1 2 i) ∧ t1 2 = upd (t 2) (4 * rf f (o / 4) + o % 4) v ∧ mk (s1 10 3) (t1 3) ∧ (t1 3 = t 3 ∨ t1 3 = upd (t 3) (rf f (o / 4)) 1) ∧ mk (s1 10 4) (t1 4) ∧ t1 4 = t 4 ∧ rDir s1 t1 d1 e1 ∧ (∀ i, i < d1 → e1 i = rf f (o / 4) ∨ ∃ j, j < d ∧ e1 i = e j) ∧ sMm s s1 ∧ tMm t t1 := by
  obtain ⟨g1, g2, g3, g4, g5, g6, g7⟩ := h
  have hG := g5 f hf
  have b23 := (hG.2.2.2.1 (o / 4) (by omega)).1
  have b7 := (hG.2.2.2.1 (o / 4) (by omega)).2 hb
  obtain ⟨v1, v2, v3⟩ := cel_val hf (i := o / 4) (by omega) hG h6
  unfold f_X_setDataWord wrT
  rw [md4 (by omega), dv4 (by omega), db_G g1 hf (by omega) hG h6, bd_s, sw_spec b23 (by omega), bv_s]
  rw [ce_spec (rf := rf) hf (by omega) (fun _ => hG.2.2.1), bd_s, gd_in v2 (by omega), nm_s, cl_n (by omega), v1, adr2, gd_in (by omega) (by omega), nm_s, cl_n (by omega)]
  generalize hbb : rf f (o / 4) = b at *
  generalize hp : 4 * b + o % 4 = p at *
  have hs2 : up2 s 11 p v 0 3 = t 0 13 := by rw [up2_ne (show 0 ≠ 11 by omega)]; exact hm
  have ht2 : up2 t 2 p v 0 13 = t 0 13 := by rw [up2_ne (show 0 ≠ 2 by omega)]
  rw [hs2, ht2]
  have hw : ∀ i, i < 92 → up2 s 11 p v 11 i = up2 t 2 p v 2 i := fun i hi => by
    rw [up2_eq, up2_eq]
    by_cases y : i = p
    · rw [y, upd_at, upd_at]
    · rw [upd_o y, upd_o y]; exact g1 i hi
  have hD : rDir (up2 s 11 p v) (up2 t 2 p v) d e := by
    unfold rDir at *; rw [up2_ne (show 10 ≠ 11 by omega), up2_ne (show 12 ≠ 11 by omega), up2_ne (show 0 ≠ 2 by omega), up2_ne (show 5 ≠ 2 by omega)]; exact g4
  by_cases q : t 0 13 = 2
  · rw [if_pos q, if_pos q, jn_spec b23, bv_s, gd_in b23 (by omega), nm_s, cl_n (by omega), vn01 (Or.inr rfl)]
    refine ⟨d, e, _, _, rfl, rfl, fun i hi => ?_, ?_, ?_, Or.inr ?_, ?_, ?_, ?_, fun i hi => Or.inr ⟨i, hi, rfl⟩, ⟨fun a x y z => ?_, ?_⟩, ⟨fun a x y z w u => ?_, fun i hi => ?_⟩⟩
    · rw [up2_ne (show 11 ≠ 10 by omega), up2_ne (show 2 ≠ 3 by omega)]; exact hw i hi
    · rw [up2_ne (by omega), up2_eq]
    · rw [up2_at, up2_eq, up2_ne (show 10 ≠ 11 by omega), up2_ne (show 3 ≠ 2 by omega)]; exact mk_set b23 g2
    · rw [up2_eq, up2_ne (by omega)]
    · rw [up2_o (by omega), up2_ne (show 10 ≠ 11 by omega), up2_ne (by omega), up2_ne (by omega)]; exact g3
    · rw [up2_ne (by omega), up2_ne (by omega)]
    · unfold rDir at *; rw [up2_o (show 2 ≠ 3 by omega), up2_ne (show 12 ≠ 10 by omega), up2_ne (show 0 ≠ 3 by omega), up2_ne (show 5 ≠ 3 by omega)]; exact hD
    · rw [up2_ne x, up2_ne y]
    · rw [up2_o (by omega), up2_ne (by omega)]
    · rw [up2_ne z, up2_ne y]
    · rw [up2_ne (by omega), up2_ne (by omega)]
  · rw [if_neg q, if_neg q]
    obtain ⟨d1, e1, s1, t1, w1, w2, w3, w4, w5, w6⟩ := md_spec hD b7 b23
    rw [w1, bv_s, w2]
    refine ⟨d1, e1, s1, t1, rfl, rfl, fun i hi => ?_, ?_, ?_, Or.inl ?_, ?_, ?_, w3, w6, ⟨fun a x y z => ?_, ?_⟩, ⟨fun a x y z w u => ?_, fun i hi => ?_⟩⟩
    · rw [w4.1 11 (by omega) (by omega), w5.1 2 (by omega) (by omega)]; exact hw i hi
    · rw [w5.1 2 (by omega) (by omega), up2_eq]
    · rw [w4.2 3 (by omega), w5.1 3 (by omega) (by omega), up2_ne (by omega), up2_ne (by omega)]; exact g2
    · rw [w5.1 3 (by omega) (by omega), up2_ne (by omega)]
    · rw [w4.2 4 (by omega), w5.1 4 (by omega) (by omega), up2_ne (by omega), up2_ne (by omega)]; exact g3
    · rw [w5.1 4 (by omega) (by omega), up2_ne (by omega)]
    · rw [w4.1 a x z, up2_ne y]
    · rw [w4.2 5 (by omega), up2_ne (by omega)]
    · rw [w5.1 a x u, up2_ne y]
    · rw [w5.2 i hi, up2_ne (by omega)]
