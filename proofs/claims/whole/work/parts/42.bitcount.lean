theorem bc_u1 (x : Int32) : ((Int32.toUInt32 x >>> (Int32.toUInt32 (1 : Int32) &&& Int32.toUInt32 31)).toInt32).toBitVec.toNat = x.toBitVec.toNat / 2 := pk_ushr x 1 1 (by decide)
theorem bc_u2 (x : Int32) : ((Int32.toUInt32 x >>> (Int32.toUInt32 (2 : Int32) &&& Int32.toUInt32 31)).toInt32).toBitVec.toNat = x.toBitVec.toNat / 4 := pk_ushr x 2 2 (by decide)
theorem bc_u4 (x : Int32) : ((Int32.toUInt32 x >>> (Int32.toUInt32 (4 : Int32) &&& Int32.toUInt32 31)).toInt32).toBitVec.toNat = x.toBitVec.toNat / 16 := pk_ushr x 4 4 (by decide)
theorem bc_u8 (x : Int32) : ((Int32.toUInt32 x >>> (Int32.toUInt32 (8 : Int32) &&& Int32.toUInt32 31)).toInt32).toBitVec.toNat = x.toBitVec.toNat / 256 := pk_ushr x 8 8 (by decide)
theorem bc_u16 (x : Int32) : ((Int32.toUInt32 x >>> (Int32.toUInt32 (16 : Int32) &&& Int32.toUInt32 31)).toInt32).toBitVec.toNat = x.toBitVec.toNat / 65536 := pk_ushr x 16 16 (by decide)
theorem hor8_lt {a b c d e f g h : Nat} (ha : a < 16) (hb : b < 16) (hc : c < 16) (hd : d < 16) (he : e < 16) (hf : f < 16) (hg : g < 16) (hh : h < 16) : hor [a, b, c, d, e, f, g, h] < 4294967296 := by simp only [hor]; omega
theorem dpc16 (m : Nat) : dpc (m % 16) = m % 2 + m / 2 % 2 + m / 4 % 2 + m / 8 % 2 := by unfold dpc; omega
theorem popN32 (x : Int32) {n : Nat} (hn : x.toBitVec.toNat = n) : popN (bt x) 32 = dpc (n % 16) + dpc (n / 16 % 16) + dpc (n / 256 % 16) + dpc (n / 4096 % 16) + dpc (n / 65536 % 16) + dpc (n / 1048576 % 16) + dpc (n / 16777216 % 16) + dpc (n / 268435456 % 16) := by
  rw [dpc16, dpc16, dpc16, dpc16, dpc16, dpc16, dpc16, dpc16]
  simp only [popN, bt_nat, hn, Nat.div_div_eq_div_mul, Nat.reducePow, Nat.reduceMul, Nat.div_one, Nat.zero_add, Nat.add_assoc]
set_option maxHeartbeats 4000000 in
theorem bc_spec (x : Int32) (s : tj_S) : f_Int_bitCount x s = some (nI (popN (bt x) 32), s) := by
  have hn := x.toBitVec.isLt
  obtain ⟨n, en⟩ : ∃ n, x.toBitVec.toNat = n := ⟨_, rfl⟩
  rw [en] at hn
  rw [popN32 x en]
  obtain ⟨a, ea⟩ : ∃ a, n % 16 = a := ⟨_, rfl⟩
  obtain ⟨b, eb⟩ : ∃ a, n / 16 % 16 = a := ⟨_, rfl⟩
  obtain ⟨c, ec⟩ : ∃ a, n / 256 % 16 = a := ⟨_, rfl⟩
  obtain ⟨d, ed⟩ : ∃ a, n / 4096 % 16 = a := ⟨_, rfl⟩
  obtain ⟨e, ee⟩ : ∃ a, n / 65536 % 16 = a := ⟨_, rfl⟩
  obtain ⟨f, ef⟩ : ∃ a, n / 1048576 % 16 = a := ⟨_, rfl⟩
  obtain ⟨g, eg⟩ : ∃ a, n / 16777216 % 16 = a := ⟨_, rfl⟩
  obtain ⟨h, eh⟩ : ∃ a, n / 268435456 % 16 = a := ⟨_, rfl⟩
  have hh : n = hor [a, b, c, d, e, f, g, h] := by simp only [hor]; omega
  have ha : a < 16 := by omega
  have hb : b < 16 := by omega
  have hc : c < 16 := by omega
  have hd : d < 16 := by omega
  have he : e < 16 := by omega
  have hf : f < 16 := by omega
  have hg : g < 16 := by omega
  have hh' : h < 16 := by omega
  rw [ea, eb, ec, ed, ee, ef, eg, eh]
  clear ea eb ec ed ee ef eg eh
  unfold f_Int_bitCount
  simp only [nm]
  -- first step
  obtain ⟨x1, e1⟩ : ∃ x1, x1 = x - (((Int32.toUInt32 x >>> (Int32.toUInt32 (1 : Int32) &&& Int32.toUInt32 31)).toInt32) &&& (1431655765 : Int32)) := ⟨_, rfl⟩
  have v1 : x1.toBitVec.toNat = hor [dp1 a, dp1 b, dp1 c, dp1 d, dp1 e, dp1 f, dp1 g, dp1 h] := by
    have q : (((Int32.toUInt32 x >>> (Int32.toUInt32 (1 : Int32) &&& Int32.toUInt32 31)).toInt32) &&& (1431655765 : Int32)).toBitVec.toNat = n / 2 &&& 1431655765 := by
      rw [vl_and, bc_u1, en]; rfl
    have q2 : n / 2 &&& 1431655765 ≤ n := Nat.le_trans Nat.and_le_left (Nat.div_le_self _ _)
    rw [e1, vl_sub (by rw [q, en]; exact q2), q, en, hh]
    exact pn_1 ha hb hc hd he hf hg hh'
  rw [← e1]
  obtain ⟨x2, e2⟩ : ∃ x2, x2 = (x1 &&& (858993459 : Int32)) + (((Int32.toUInt32 x1 >>> (Int32.toUInt32 (2 : Int32) &&& Int32.toUInt32 31)).toInt32) &&& (858993459 : Int32)) := ⟨_, rfl⟩
  have pa := (dg_3 a ha).2.1; have pb := (dg_3 b hb).2.1; have pc := (dg_3 c hc).2.1; have pd := (dg_3 d hd).2.1
  have pe := (dg_3 e he).2.1; have pf := (dg_3 f hf).2.1; have pg := (dg_3 g hg).2.1; have ph := (dg_3 h hh').2.1
  have v2 : x2.toBitVec.toNat = hor [dpc a, dpc b, dpc c, dpc d, dpc e, dpc f, dpc g, dpc h] := by
    have q := pn_2 ha hb hc hd he hf hg hh'
    have k1 : (x1 &&& (858993459 : Int32)).toBitVec.toNat = x1.toBitVec.toNat &&& 858993459 := by rw [vl_and]; rfl
    have k2 : (((Int32.toUInt32 x1 >>> (Int32.toUInt32 (2 : Int32) &&& Int32.toUInt32 31)).toInt32) &&& (858993459 : Int32)).toBitVec.toNat = x1.toBitVec.toNat / 4 &&& 858993459 := by rw [vl_and, bc_u2]; rfl
    rw [← v1] at q
    have q3 := hor8_lt (a := dpc a) (b := dpc b) (c := dpc c) (d := dpc d) (e := dpc e) (f := dpc f) (g := dpc g) (h := dpc h) (by omega) (by omega) (by omega) (by omega) (by omega) (by omega) (by omega) (by omega)
    rw [e2, vl_add (by rw [k1, k2, q]; exact q3), k1, k2, q]
  rw [← e2]
  clear e1 e2 v1 hh hn en
  generalize dpc a = a1 at *; generalize dpc b = b1 at *; generalize dpc c = c1 at *; generalize dpc d = d1 at *
  generalize dpc e = i1 at *; generalize dpc f = f1 at *; generalize dpc g = g1 at *; generalize dpc h = h1 at *
  obtain ⟨x3, e3⟩ : ∃ x3, x3 = (x2 + ((Int32.toUInt32 x2 >>> (Int32.toUInt32 (4 : Int32) &&& Int32.toUInt32 31)).toInt32)) &&& (252645135 : Int32) := ⟨_, rfl⟩
  have v3 : x3.toBitVec.toNat = hor [a1 + b1, 0, c1 + d1, 0, i1 + f1, 0, g1 + h1, 0] := by
    have q := pn_3 pa pb pc pd pe pf pg ph
    rw [e3, vl_and, vl_add (by rw [bc_u4, v2]; simp only [hor]; omega), bc_u4, v2, ← q]; rfl
  rw [← e3]
  obtain ⟨x4, e4⟩ : ∃ x4, x4 = x3 + ((Int32.toUInt32 x3 >>> (Int32.toUInt32 (8 : Int32) &&& Int32.toUInt32 31)).toInt32) := ⟨_, rfl⟩
  have v4 : x4.toBitVec.toNat = hor [a1 + b1, 0, c1 + d1, 0, i1 + f1, 0, g1 + h1, 0] + hor [a1 + b1, 0, c1 + d1, 0, i1 + f1, 0, g1 + h1, 0] / 256 := by
    rw [e4, vl_add (by rw [bc_u8, v3]; simp only [hor]; omega), bc_u8, v3]
  rw [← e4]
  obtain ⟨x5, e5⟩ : ∃ x5, x5 = x4 + ((Int32.toUInt32 x4 >>> (Int32.toUInt32 (16 : Int32) &&& Int32.toUInt32 31)).toInt32) := ⟨_, rfl⟩
  have r4 := pn_4 pa pb pc pd pe pf pg ph v4 (rfl : x4.toBitVec.toNat + x4.toBitVec.toNat / 65536 = _)
  have v5 : x5.toBitVec.toNat = x4.toBitVec.toNat + x4.toBitVec.toNat / 65536 := by
    rw [e5, vl_add (by rw [bc_u16]; omega), bc_u16]
  rw [← e5]
  have v6 : x5 &&& (63 : Int32) = nI (a1 + b1 + c1 + d1 + i1 + f1 + g1 + h1) := by
    apply vl_inj
    rw [vl_and, v5, pk_tn (by omega), ← r4.1]; rfl
  rw [v6]
