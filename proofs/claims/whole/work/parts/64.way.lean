section way
variable {c o d : Nat} {z ab e lenC len : Nat → Nat} {rfC rf : Nat → Nat → Nat}
/-- how many of the oldest must go: both sides count alike -/
theorem ow_L {s t : tj_S} (hL : rLog s t c o z ab) {n : Nat} (hn : n ≤ 24) (kx km : Int32 → Int32 → tj_S → Option (Int32 × tj_S)) : ∀ m i n1 n2, i + m = c → m < n1 → m < n2 → ∃ K P, i ≤ K ∧ K ≤ c ∧ ab c - ab K + n ≤ 24 ∧
    f_Log_oldestInTheWayOf_L7 (nI n) kx n1 (nI (24 - (ab c - ab i))) (nI i) s = kx (nI P) (nI K) s ∧ f_Mod_seal_L44 (nI n) km n2 (nI (24 - (ab c - ab i))) (nI i) t = km (nI P) (nI K) t := by
  obtain ⟨hc, ho, e1, e2, e3, e4, e5, hab, hT⟩ := hL
  intro m
  induction m with
  | zero =>
    intro i n1 n2 h h1 h2
    obtain ⟨n1, rfl⟩ : ∃ n, n1 = n + 1 := ⟨n1 - 1, by omega⟩
    obtain ⟨n2, rfl⟩ : ∃ n, n2 = n + 1 := ⟨n2 - 1, by omega⟩
    have : i = c := by omega
    subst this
    refine ⟨i, 24 - (ab i - ab i), Nat.le_refl _, Nat.le_refl _, by omega, ?_, ?_⟩
    · rw [f_Log_oldestInTheWayOf_L7, e1, if_pos (Int32.le_refl _)]
    · rw [f_Mod_seal_L44, if_pos (by rw [le_n (by omega) (by omega)]; omega)]
  | succ m ih =>
    intro i n1 n2 h h1 h2
    obtain ⟨n1, rfl⟩ : ∃ n, n1 = n + 1 := ⟨n1 - 1, by omega⟩
    obtain ⟨n2, rfl⟩ : ∃ n, n2 = n + 1 := ⟨n2 - 1, by omega⟩
    have m0 := ab_mono hT (i := 0) (j := i) (by omega) (by omega)
    have m1 := ab_mono hT (i := i) (j := c) (by omega) (by omega)
    have m2 := ab_mono hT (i := i + 1) (j := c) (by omega) (by omega)
    obtain ⟨q1, q2, q3, -⟩ := hT i (by omega)
    by_cases q : n ≤ 24 - (ab c - ab i)
    · refine ⟨i, 24 - (ab c - ab i), Nat.le_refl _, by omega, by omega, ?_, ?_⟩
      · rw [f_Log_oldestInTheWayOf_L7, e1, if_neg (by rw [le_n (by omega) (by omega)]; omega), if_pos (by rw [le_n (by omega) (by omega)]; exact q)]
      · rw [f_Mod_seal_L44, if_pos (by rw [le_n (by omega) (by omega)]; exact q)]
    · obtain ⟨K, P, g1, g2, g3, g4, g5⟩ := ih (i + 1) n1 n2 (by omega) (by omega) (by omega)
      refine ⟨K, P, by omega, g2, g3, ?_, ?_⟩
      · rw [f_Log_oldestInTheWayOf_L7, e1, if_neg (by rw [le_n (by omega) (by omega)]; omega), if_neg (by rw [le_n (by omega) (by omega)]; exact q), sl_spec e3 (by omega) (by omega), bd_s, gd_in (Nat.mod_lt _ (by omega)) (by omega), cl_n (by omega), q2, nm_s, nm_s, nI_add, nI_s, ← g4]
        congr 2; omega
      · rw [f_Mod_seal_L44, if_neg (by rw [le_n (by omega) (by omega)]; exact q), e2, if_neg (by rw [le_n (by omega) (by omega)]; omega), gd_in (by omega) (by omega), cl_n (by omega), q3, nm_s, nm_s, nI_add, nI_s, ← g5]
        congr 2; omega
/-- the n writes of a transaction -/
theorem wt_L {n : Nat} (hn : n ≤ 24) (y1 y2 : Int32) (kx km : Int32 → tj_S → Option (Int32 × tj_S)) : ∀ m i n1 n2 (s t : tj_S), i + m = n → m < n1 → m < n2 → rPR s t c o d z ab e lenC len rfC rf → t 0 12 = 1 →
    ∃ (s1 t1 : tj_S), (f_Disk_writeTransaction_10_L2 (nI n) kx n1 (nI i) s = some (0, s1) ∧ f_Mod_seal_L90 (nI n) y1 y2 km n2 (nI i) t = some (-2, t1) ∧ pRel s1 t1) ∨
      (f_Disk_writeTransaction_10_L2 (nI n) kx n1 (nI i) s = kx (nI n) s1 ∧ f_Mod_seal_L90 (nI n) y1 y2 km n2 (nI i) t = km (nI n) t1 ∧ rPR s1 t1 c o d z ab e lenC len rfC rf ∧ t1 0 12 = 1 ∧ tPow t t1) := by
  intro m
  induction m with
  | zero =>
    intro i n1 n2 s t h h1 h2 hR hup
    obtain ⟨n1, rfl⟩ : ∃ n, n1 = n + 1 := ⟨n1 - 1, by omega⟩
    obtain ⟨n2, rfl⟩ : ∃ n, n2 = n + 1 := ⟨n2 - 1, by omega⟩
    have : i = n := by omega
    subst this
    rw [f_Disk_writeTransaction_10_L2, f_Mod_seal_L90, if_pos (Int32.le_refl _), if_pos (Int32.le_refl _)]
    exact ⟨s, t, Or.inr ⟨rfl, rfl, hR, hup, fun _ _ => rfl, fun _ _ _ _ => rfl⟩⟩
  | succ m ih =>
    intro i n1 n2 s t h h1 h2 hR hup
    obtain ⟨n1, rfl⟩ : ∃ n, n1 = n + 1 := ⟨n1 - 1, by omega⟩
    obtain ⟨n2, rfl⟩ : ∃ n, n2 = n + 1 := ⟨n2 - 1, by omega⟩
    obtain ⟨r, s1, t1, p1, p2, hp, hs, ht, hc⟩ := sp_spec hR.1.1
    have hB1 := rB_pow hs ht hp hR.1
    rw [f_Disk_writeTransaction_10_L2, f_Mod_seal_L90, if_neg (by rw [le_n (by omega) (by omega)]; omega), if_neg (by rw [le_n (by omega) (by omega)]; omega), p1, p2, bd_s, bd_s]
    rcases hc with ⟨rfl, hc⟩ | ⟨rfl, hc⟩
    · rw [if_pos rfl, if_pos rfl]
      exact ⟨s1, t1, Or.inl ⟨rfl, rfl, c, o, d, z, ab, e, lenC, rfC, hB1, fun q => by rw [hc] at q; exact absurd q (by decide)⟩⟩
    · rw [if_neg h10, if_neg h10, nm_s, nm_s, nI_s]
      obtain ⟨s2, t2, hh⟩ := ih (i + 1) n1 n2 s1 t1 (by omega) (by omega) (by omega) ⟨hB1, fun _ => rUp_pow ht (hR.2 hup)⟩ (by rw [hc, hup])
      refine ⟨s2, t2, ?_⟩
      rcases hh with g | ⟨g1, g2, g3, g4, g5⟩
      · exact Or.inl g
      · exact Or.inr ⟨g1, g2, g3, g4, fun a ha => by rw [g5.1 a ha, ht.1 a ha], fun i x y z => by rw [g5.2 i x y z, ht.2 i x y z]⟩
end way
theorem co_gen {s : tj_S} {o k b A : Nat} {f : Nat → Int32} (h45 : s 4 5 = nI o) (ho : o < 8) (hk : k < 100) (hb : b < 23) (q5 : mk (s 8 ((o + k) % 8)) f) (q4 : s 6 ((o + k) % 8) = nI (A % 24)) : f_Log_copyOffset (nI k) (nI b) s = some (nI (4 * ((A + cn f b + cn f b / 4 + 1) % 24)), s) := by
  unfold f_Log_copyOffset
  rw [sl_spec h45 (by omega) (by omega), bd_s, gd_in (Nat.mod_lt _ (by omega)) (by omega), cl_n (by omega), bc_spec, bd_s]
  have e : popN (bt (s 8 ((o + k) % 8) &&& ((1 : Int32) <<< (nI b &&& 31) - 1))) 32 = cn f b := by
    have h1 : popN (bt (s 8 ((o + k) % 8) &&& ((1 : Int32) <<< (nI b &&& 31) - 1))) 32 = popN (bt (s 8 ((o + k) % 8) &&& ((1 : Int32) <<< (nI b &&& 31) - 1))) b := by
      have := popN_hi (p := bt (s 8 ((o + k) % 8) &&& ((1 : Int32) <<< (nI b &&& 31) - 1))) (a := b) (32 - b) (fun i h1 h2 => by rw [b_and, b_low b hb i (by omega), decide_eq_false (by omega), Bool.and_false])
      rw [show b + (32 - b) = 32 by omega] at this; exact this
    rw [h1]
    have h2 : ∀ n, n ≤ b → popN (bt (s 8 ((o + k) % 8) &&& ((1 : Int32) <<< (nI b &&& 31) - 1))) n = cn f n := by
      intro n
      induction n with
      | zero => intro _; rfl
      | succ n ih =>
        intro hn
        show popN _ n + (bt _ n).toNat = cn f n + _
        rw [ih (by omega), b_and, b_low b hb n (by omega), decide_eq_true (show n < b by omega), Bool.and_true, mk_bit q5 (by omega)]
        by_cases hf : f n = 1 <;> simp [hf]
    exact h2 b (Nat.le_refl _)
  have hcn := cn_le f b
  rw [e, sl_spec h45 (by omega) (by omega), bd_s, gd_in (Nat.mod_lt _ (by omega)) (by omega), cl_n (by omega), q4, dv4 (by omega), nI_add, nI_add, nI_1, nm_s]
  rw [show (nI (A % 24 + cn f b + cn f b / 4 + 1) - nI (A % 24 + cn f b + cn f b / 4 + 1) / 24 * 24 : Int32) = nI ((A % 24 + cn f b + cn f b / 4 + 1) % 24) from pk_rem (d := 24) (by omega) (by omega) (by omega)]
  rw [show (nI ((A % 24 + cn f b + cn f b / 4 + 1) % 24) * 4 : Int32) = nI ((A % 24 + cn f b + cn f b / 4 + 1) % 24 * 4) from pk_mul _ 4]
  rw [show (A % 24 + cn f b + cn f b / 4 + 1) % 24 * 4 = 4 * ((A + cn f b + cn f b / 4 + 1) % 24) by omega]
/-- the class lays the copies of a transaction into the ring -/
def psn (A : Nat) (f : Nat → Int32) (b : Nat) : Nat := (A + cn f b + cn f b / 4 + 1) % 24
theorem cn_lt {f : Nat → Int32} {b b1 : Nat} (h : b < b1) (hf : f b = 1) : cn f b < cn f b1 := by
  have h1 : cn f (b + 1) = cn f b + 1 := by show cn f b + _ = _; rw [if_pos hf]
  have := cn_mono f (show b + 1 ≤ b1 by omega)
  omega
theorem md_ne {x y : Nat} (h : x < y) (h2 : y < x + 24) : x % 24 ≠ y % 24 := by omega
theorem ap_L {o k A : Nat} {f : Nat → Int32} (ho : o < 8) (hk : k < 100) (hA : cn f 23 + cn f 23 / 4 + 1 ≤ 24) (y : Int32) (kc : Int32 → tj_S → Option tj_S) : ∀ m B n (s : tj_S), B + m = 23 → s 4 5 = nI o → mk (s 8 ((o + k) % 8)) f → s 6 ((o + k) % 8) = nI (A % 24) → mk (s 10 3) f →
    ∃ s1, f_Log_append_10_L71 y (nI k) kc (n + m + 1) (nI B) s = kc (nI 23) s1 ∧ (∀ a, a ≠ 5 → s1 a = s a) ∧ (∀ b, B ≤ b → b < 23 → f b = 1 → ∀ w, w < 4 → s1 5 (4 * psn A f b + w) = s 11 (4 * b + w)) ∧ (∀ i, (∀ b, B ≤ b → b < 23 → f b = 1 → i / 4 ≠ psn A f b) → s1 5 i = s 5 i) := by
  intro m
  induction m with
  | zero =>
    intro B n s h h45 h8 h6 h10
    have : B = 23 := by omega
    subst this
    rw [f_Log_append_10_L71, if_pos (by decide)]
    exact ⟨s, rfl, fun _ _ => rfl, fun b h1 h2 => absurd h2 (by omega), fun _ _ => rfl⟩
  | succ m ih =>
    intro B n s h h45 h8 h6 h10'
    rw [show n + (m + 1) + 1 = (n + m + 1) + 1 by omega, f_Log_append_10_L71, if_neg (by rw [show ((23 : Int32) ≤ nI B) = (23 ≤ B) from le_n (a := 23) (by omega) (by omega)]; omega), hb_spec (by omega), bd_s, mk_bit h10' (by omega)]
    by_cases q : f B = 1
    · rw [decide_eq_true q, if_neg (by decide), co_gen h45 ho hk (by omega) h8 h6, bd_s, show (nI B * 4 : Int32) = nI (4 * B) from by rw [Nat.mul_comm]; exact pk_mul B 4]
      have hpos : psn A f B < 24 := Nat.mod_lt _ (by omega)
      have hcp : cpb (nI (4 * B)) (nI (4 * ((A + cn f B + cn f B / 4 + 1) % 24))) 4 92 96 = true := cp_ok (a := 4 * B) (b := 4 * ((A + cn f B + cn f B / 4 + 1) % 24)) (n := 4) (n0 := 92) (n1 := 96) (by omega) (by omega) (by omega) (by omega)
      rw [gd_t hcp, nm_s, nm_s, nI_s, cl_n (by omega), cl_n (by omega), show (4 : Int32).toNatClampNeg = 4 from rfl]
      generalize hs2 : st2 s 5 (va_cpy (s 11) (s 5) (4 * B) (4 * ((A + cn f B + cn f B / 4 + 1) % 24)) 4) = s2
      have n2 : ∀ a, a ≠ 5 → s2 a = s a := fun a ha => by rw [← hs2, st2_ne ha]
      have e5 : ∀ i, s2 5 i = if 4 * psn A f B ≤ i ∧ i < 4 * psn A f B + 4 then s 11 (4 * B + (i - 4 * psn A f B)) else s 5 i := fun i => by rw [← hs2, st2_eq]; rfl
      obtain ⟨s1, w1, w2, w3, w4⟩ := ih (B + 1) n s2 (by omega) (by rw [n2 4 (by omega)]; exact h45) (by rw [n2 8 (by omega)]; exact h8) (by rw [n2 6 (by omega)]; exact h6) (by rw [n2 10 (by omega)]; exact h10')
      refine ⟨s1, w1, fun a ha => by rw [w2 a ha, n2 a ha], fun b hb1 hb2 hf w hw => ?_, fun i hi => ?_⟩
      · by_cases q2 : b = B
        · subst q2
          rw [w4 _ (fun b2 g1 g2 g3 => ?_), e5, if_pos (by omega), show 4 * b + (4 * psn A f b + w - 4 * psn A f b) = 4 * b + w by omega]
          have l1 := cn_lt (show b < b2 by omega) q
          have l2 := cn_lt (show b2 < 23 by omega) g3
          rw [show (4 * psn A f b + w) / 4 = psn A f b by omega]
          exact md_ne (show A + cn f b + cn f b / 4 + 1 < A + cn f b2 + cn f b2 / 4 + 1 by omega) (by omega)
        · rw [w3 b (by omega) hb2 hf w hw, n2 11 (by omega)]
      · rw [w4 i (fun b2 g1 g2 g3 => hi b2 (by omega) g2 g3), e5, if_neg]
        have := hi B (Nat.le_refl _) (by omega) q
        omega
    · rw [decide_eq_false q, if_pos (show (if false = true then (1 : Int32) else 0) = 0 from rfl), nm_s, nI_s]
      obtain ⟨s1, w1, w2, w3, w4⟩ := ih (B + 1) n s (by omega) h45 h8 h6 h10'
      refine ⟨s1, w1, w2, fun b hb1 hb2 hf w hw => ?_, fun i hi => w4 i (fun b2 g1 g2 g3 => hi b2 (by omega) g2 g3)⟩
      by_cases q2 : b = B
      · subst q2; exact absurd hf q
      · exact w3 b (by omega) hb2 hf w hw
