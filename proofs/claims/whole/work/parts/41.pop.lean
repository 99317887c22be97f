/-! the JDK's bitCount is the number of the bits -/
def hor : List Nat → Nat
  | [] => 0
  | d :: ds => d + 16 * hor ds
def lt16 : List Nat → Prop
  | [] => True
  | d :: ds => d < 16 ∧ lt16 ds
theorem land16 (a b c d : Nat) (ha : a < 16) (hc : c < 16) : (a + 16 * b) &&& (c + 16 * d) = (a &&& c) + 16 * (b &&& d) := by
  have hac : a &&& c < 16 := Nat.lt_of_le_of_lt Nat.and_le_left ha
  apply Nat.eq_of_testBit_eq
  intro i
  have e : ∀ x y : Nat, x < 16 → (x + 16 * y).testBit i = if i < 4 then x.testBit i else y.testBit (i - 4) := by
    intro x y hx
    have := Nat.testBit_two_pow_mul_add y (b := x) (i := 4) hx i
    rw [← this, Nat.add_comm]
  rw [Nat.testBit_and, e a b ha, e c d hc, e (a &&& c) (b &&& d) hac, Nat.testBit_and, Nat.testBit_and]
  split <;> rfl
theorem hor_and : ∀ (ds ms : List Nat), lt16 ds → lt16 ms → hor ds &&& hor ms = hor (List.zipWith (fun a b => a &&& b) ds ms)
  | [], ms, _, _ => by simp [hor]
  | d :: ds, [], _, _ => by simp [hor]
  | d :: ds, m :: ms, h1, h2 => by
    show (d + 16 * hor ds) &&& (m + 16 * hor ms) = (d &&& m) + 16 * hor (List.zipWith _ ds ms)
    rw [land16 _ _ _ _ h1.1 h2.1, hor_and ds ms h1.2 h2.2]
/-- a digit's steps -/
def dp1 (h : Nat) : Nat := h - ((h / 2) &&& 5)
def dpc (h : Nat) : Nat := h % 2 + h / 2 % 2 + h / 4 % 2 + h / 8 % 2
theorem dg_1 : ∀ d, d < 16 → ∀ e, e < 16 → (d / 2 + 8 * (e % 2)) &&& 5 = (d / 2) &&& 5 := by decide +kernel
theorem dg_1b : ∀ d, d < 16 → (d / 2) &&& 5 ≤ d ∧ d / 2 < 8 ∧ dp1 d < 16 := by decide +kernel
theorem dg_2 : ∀ d, d < 16 → ∀ e, e < 16 → (d / 4 + 4 * (e % 4)) &&& 3 = (d / 4) &&& 3 := by decide +kernel
theorem dg_3 : ∀ d, d < 16 → (dp1 d &&& 3) + ((dp1 d / 4) &&& 3) = dpc d ∧ dpc d ≤ 4 ∧ (dp1 d &&& 3) < 16 ∧ ((dp1 d / 4) &&& 3) < 16 := by decide +kernel
theorem dg_15 : ∀ d, d < 16 → d &&& 15 = d := by decide +kernel
section popN
variable {a b c d e f g h : Nat}
theorem pn_1 (ha : a < 16) (hb : b < 16) (hc : c < 16) (hd : d < 16) (he : e < 16) (hf : f < 16) (hg : g < 16) (hh : h < 16) : hor [a, b, c, d, e, f, g, h] - (hor [a, b, c, d, e, f, g, h] / 2 &&& 1431655765) = hor [dp1 a, dp1 b, dp1 c, dp1 d, dp1 e, dp1 f, dp1 g, dp1 h] := by
  have e2 : hor [a, b, c, d, e, f, g, h] / 2 = hor [a / 2 + 8 * (b % 2), b / 2 + 8 * (c % 2), c / 2 + 8 * (d % 2), d / 2 + 8 * (e % 2), e / 2 + 8 * (f % 2), f / 2 + 8 * (g % 2), g / 2 + 8 * (h % 2), h / 2 + 8 * (0 % 2)] := by
    simp only [hor]; omega
  have em : (1431655765 : Nat) = hor [5, 5, 5, 5, 5, 5, 5, 5] := by decide
  have e3 := hor_and [a / 2 + 8 * (b % 2), b / 2 + 8 * (c % 2), c / 2 + 8 * (d % 2), d / 2 + 8 * (e % 2), e / 2 + 8 * (f % 2), f / 2 + 8 * (g % 2), g / 2 + 8 * (h % 2), h / 2 + 8 * (0 % 2)] [5, 5, 5, 5, 5, 5, 5, 5] ⟨by omega, by omega, by omega, by omega, by omega, by omega, by omega, by omega, trivial⟩ ⟨by omega, by omega, by omega, by omega, by omega, by omega, by omega, by omega, trivial⟩
  rw [e2, em, e3]
  simp only [List.zipWith]
  rw [dg_1 a ha b hb, dg_1 b hb c hc, dg_1 c hc d hd, dg_1 d hd e he, dg_1 e he f hf, dg_1 f hf g hg, dg_1 g hg h hh, dg_1 h hh 0 (by omega)]
  have qa := (dg_1b a ha).1; have qb := (dg_1b b hb).1; have qc := (dg_1b c hc).1; have qd := (dg_1b d hd).1
  have qe := (dg_1b e he).1; have qf := (dg_1b f hf).1; have qg := (dg_1b g hg).1; have qh := (dg_1b h hh).1
  simp only [hor, dp1]
  generalize (a / 2) &&& 5 = ua at *; generalize (b / 2) &&& 5 = ub at *; generalize (c / 2) &&& 5 = uc at *; generalize (d / 2) &&& 5 = ud at *
  generalize (e / 2) &&& 5 = ue at *; generalize (f / 2) &&& 5 = uf at *; generalize (g / 2) &&& 5 = ug at *; generalize (h / 2) &&& 5 = uh at *
  omega
theorem pn_2 (ha : a < 16) (hb : b < 16) (hc : c < 16) (hd : d < 16) (he : e < 16) (hf : f < 16) (hg : g < 16) (hh : h < 16) : (hor [dp1 a, dp1 b, dp1 c, dp1 d, dp1 e, dp1 f, dp1 g, dp1 h] &&& 858993459) + (hor [dp1 a, dp1 b, dp1 c, dp1 d, dp1 e, dp1 f, dp1 g, dp1 h] / 4 &&& 858993459) = hor [dpc a, dpc b, dpc c, dpc d, dpc e, dpc f, dpc g, dpc h] := by
  have qa := dg_3 a ha; have qb := dg_3 b hb; have qc := dg_3 c hc; have qd := dg_3 d hd
  have qe := dg_3 e he; have qf := dg_3 f hf; have qg := dg_3 g hg; have qh := dg_3 h hh
  have ra := (dg_1b a ha).2.2; have rb := (dg_1b b hb).2.2; have rc := (dg_1b c hc).2.2; have rd := (dg_1b d hd).2.2
  have re := (dg_1b e he).2.2; have rf := (dg_1b f hf).2.2; have rg := (dg_1b g hg).2.2; have rh := (dg_1b h hh).2.2
  generalize dp1 a = a1 at *; generalize dp1 b = b1 at *; generalize dp1 c = c1 at *; generalize dp1 d = d1 at *
  generalize dp1 e = e1 at *; generalize dp1 f = f1 at *; generalize dp1 g = g1 at *; generalize dp1 h = h1 at *
  have e2 : hor [a1, b1, c1, d1, e1, f1, g1, h1] / 4 = hor [a1 / 4 + 4 * (b1 % 4), b1 / 4 + 4 * (c1 % 4), c1 / 4 + 4 * (d1 % 4), d1 / 4 + 4 * (e1 % 4), e1 / 4 + 4 * (f1 % 4), f1 / 4 + 4 * (g1 % 4), g1 / 4 + 4 * (h1 % 4), h1 / 4 + 4 * (0 % 4)] := by
    simp only [hor]; omega
  have em : (858993459 : Nat) = hor [3, 3, 3, 3, 3, 3, 3, 3] := by decide
  have e3 := hor_and [a1, b1, c1, d1, e1, f1, g1, h1] [3, 3, 3, 3, 3, 3, 3, 3] ⟨by omega, by omega, by omega, by omega, by omega, by omega, by omega, by omega, trivial⟩ ⟨by omega, by omega, by omega, by omega, by omega, by omega, by omega, by omega, trivial⟩
  have e4 := hor_and [a1 / 4 + 4 * (b1 % 4), b1 / 4 + 4 * (c1 % 4), c1 / 4 + 4 * (d1 % 4), d1 / 4 + 4 * (e1 % 4), e1 / 4 + 4 * (f1 % 4), f1 / 4 + 4 * (g1 % 4), g1 / 4 + 4 * (h1 % 4), h1 / 4 + 4 * (0 % 4)] [3, 3, 3, 3, 3, 3, 3, 3] ⟨by omega, by omega, by omega, by omega, by omega, by omega, by omega, by omega, trivial⟩ ⟨by omega, by omega, by omega, by omega, by omega, by omega, by omega, by omega, trivial⟩
  rw [e2, em, e3, e4]
  simp only [List.zipWith]
  rw [dg_2 a1 ra b1 rb, dg_2 b1 rb c1 rc, dg_2 c1 rc d1 rd, dg_2 d1 rd e1 re, dg_2 e1 re f1 rf, dg_2 f1 rf g1 rg, dg_2 g1 rg h1 rh, dg_2 h1 rh 0 (by omega)]
  rw [← qa.1, ← qb.1, ← qc.1, ← qd.1, ← qe.1, ← qf.1, ← qg.1, ← qh.1]
  simp only [hor]; omega
theorem pn_3 (ha : a ≤ 4) (hb : b ≤ 4) (hc : c ≤ 4) (hd : d ≤ 4) (he : e ≤ 4) (hf : f ≤ 4) (hg : g ≤ 4) (hh : h ≤ 4) : (hor [a, b, c, d, e, f, g, h] + hor [a, b, c, d, e, f, g, h] / 16) &&& 252645135 = hor [a + b, 0, c + d, 0, e + f, 0, g + h, 0] := by
  have e2 : hor [a, b, c, d, e, f, g, h] + hor [a, b, c, d, e, f, g, h] / 16 = hor [a + b, b + c, c + d, d + e, e + f, f + g, g + h, h] := by
    simp only [hor]; omega
  have em : (252645135 : Nat) = hor [15, 0, 15, 0, 15, 0, 15, 0] := by decide
  have e3 := hor_and [a + b, b + c, c + d, d + e, e + f, f + g, g + h, h] [15, 0, 15, 0, 15, 0, 15, 0] ⟨by omega, by omega, by omega, by omega, by omega, by omega, by omega, by omega, trivial⟩ ⟨by omega, by omega, by omega, by omega, by omega, by omega, by omega, by omega, trivial⟩
  rw [e2, em, e3]
  simp only [List.zipWith]
  rw [dg_15 (a + b) (by omega), dg_15 (c + d) (by omega), dg_15 (e + f) (by omega), dg_15 (g + h) (by omega)]
  simp only [Nat.and_zero]
theorem pn_4 (ha : a ≤ 4) (hb : b ≤ 4) (hc : c ≤ 4) (hd : d ≤ 4) (he : e ≤ 4) (hf : f ≤ 4) (hg : g ≤ 4) (hh : h ≤ 4) {v4 v5 : Nat} (h4 : v4 = hor [a + b, 0, c + d, 0, e + f, 0, g + h, 0] + hor [a + b, 0, c + d, 0, e + f, 0, g + h, 0] / 256) (h5 : v5 = v4 + v4 / 65536) : v5 &&& 63 = a + b + c + d + e + f + g + h ∧ v4 < 2 ^ 31 ∧ v5 < 2 ^ 31 := by
  have em : v5 &&& 63 = v5 % 64 := Nat.and_two_pow_sub_one_eq_mod v5 6
  rw [em]
  have k3 : hor [a + b, 0, c + d, 0, e + f, 0, g + h, 0] = (a + b) + 256 * ((c + d) + 256 * ((e + f) + 256 * (g + h))) := by simp only [hor]; omega
  rw [k3] at h4
  have k4 : ((a + b) + 256 * ((c + d) + 256 * ((e + f) + 256 * (g + h)))) / 256 = (c + d) + 256 * ((e + f) + 256 * (g + h)) := by omega
  rw [k4] at h4
  have k5 : v4 / 65536 = (e + f) + (g + h) + 256 * (g + h) := by omega
  rw [k5] at h5
  omega
end popN
def popN (p : Nat → Bool) : Nat → Nat
  | 0 => 0
  | n + 1 => popN p n + (p n).toNat
theorem bt_nat (x : Int32) (i : Nat) : (bt x i).toNat = x.toBitVec.toNat / 2 ^ i % 2 := by
  unfold bt
  rw [← BitVec.testBit_toNat, Nat.toNat_testBit]
theorem vl_and (x y : Int32) : (x &&& y).toBitVec.toNat = x.toBitVec.toNat &&& y.toBitVec.toNat := by
  rw [Int32.toBitVec_and, BitVec.toNat_and]
theorem vl_add {x y : Int32} (h : x.toBitVec.toNat + y.toBitVec.toNat < 2 ^ 32) : (x + y).toBitVec.toNat = x.toBitVec.toNat + y.toBitVec.toNat := by
  rw [Int32.toBitVec_add, BitVec.toNat_add, Nat.mod_eq_of_lt h]
theorem vl_sub {x y : Int32} (h : y.toBitVec.toNat ≤ x.toBitVec.toNat) : (x - y).toBitVec.toNat = x.toBitVec.toNat - y.toBitVec.toNat := by
  rw [Int32.toBitVec_sub, BitVec.toNat_sub]
  have := x.toBitVec.isLt; have := y.toBitVec.isLt
  omega
theorem vl_inj {x y : Int32} (h : x.toBitVec.toNat = y.toBitVec.toNat) : x = y := Int32.toBitVec_inj.mp (BitVec.eq_of_toNat_eq h)
