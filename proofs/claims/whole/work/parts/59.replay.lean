theorem co_spec {s t : tj_S} {c o : Nat} {z ab : Nat → Nat} (hL : rLog s t c o z ab) {k b : Nat} (hk : k < c) (hb : b < 23) : f_Log_copyOffset (nI k) (nI b) s = some (nI (4 * ((ab k + cn (hs t k) b + cn (hs t k) b / 4 + 1) % 24)), s) := by
  have hc := hL.1
  have ho := hL.2.1
  obtain ⟨-, -, -, q4, q5, -, -⟩ := hL.2.2.2.2.2.2.2.2 k hk
  unfold f_Log_copyOffset
  rw [sl_spec hL.2.2.2.2.1 (by omega) (by omega), bd_s, gd_in (Nat.mod_lt _ (by omega)) (by omega), cl_n (by omega), bc_spec, bd_s]
  have e : popN (bt (s 8 ((o + k) % 8) &&& ((1 : Int32) <<< (nI b &&& 31) - 1))) 32 = cn (hs t k) b := by
    have h1 : popN (bt (s 8 ((o + k) % 8) &&& ((1 : Int32) <<< (nI b &&& 31) - 1))) 32 = popN (bt (s 8 ((o + k) % 8) &&& ((1 : Int32) <<< (nI b &&& 31) - 1))) b := by
      have := popN_hi (p := bt (s 8 ((o + k) % 8) &&& ((1 : Int32) <<< (nI b &&& 31) - 1))) (a := b) (32 - b) (fun i h1 h2 => by rw [b_and, b_low b hb i (by omega), decide_eq_false (by omega), Bool.and_false])
      rw [show b + (32 - b) = 32 by omega] at this; exact this
    rw [h1]
    have h2 : ∀ n, n ≤ b → popN (bt (s 8 ((o + k) % 8) &&& ((1 : Int32) <<< (nI b &&& 31) - 1))) n = cn (hs t k) n := by
      intro n
      induction n with
      | zero => intro _; rfl
      | succ n ih =>
        intro hn
        show popN _ n + (bt _ n).toNat = cn (hs t k) n + _
        rw [ih (by omega), b_and, b_low b hb n (by omega), decide_eq_true (show n < b by omega), Bool.and_true, mk_bit q5 (by omega)]
        by_cases hf : hs t k n = 1 <;> simp [hf]
    exact h2 b (Nat.le_refl _)
  have hcn := cn_le (hs t k) b
  rw [e, sl_spec hL.2.2.2.2.1 (by omega) (by omega), bd_s, gd_in (Nat.mod_lt _ (by omega)) (by omega), cl_n (by omega), q4, dv4 (by omega), nI_add, nI_add, nI_1, nm_s]
  rw [show (nI (ab k % 24 + cn (hs t k) b + cn (hs t k) b / 4 + 1) - nI (ab k % 24 + cn (hs t k) b + cn (hs t k) b / 4 + 1) / 24 * 24 : Int32) = nI ((ab k % 24 + cn (hs t k) b + cn (hs t k) b / 4 + 1) % 24) from pk_rem (d := 24) (by omega) (by omega) (by omega)]
  rw [show (nI ((ab k % 24 + cn (hs t k) b + cn (hs t k) b / 4 + 1) % 24) * 4 : Int32) = nI ((ab k % 24 + cn (hs t k) b + cn (hs t k) b / 4 + 1) % 24 * 4) from pk_mul _ 4]
  rw [show (ab k % 24 + cn (hs t k) b + cn (hs t k) b / 4 + 1) % 24 * 4 = 4 * ((ab k + cn (hs t k) b + cn (hs t k) b / 4 + 1) % 24) by omega]
theorem hb_spec {x : Int32} {b : Nat} (hb : b < 23) (s : tj_S) : f_X_hasBlock x (nI b) s = some (if bt x b = true then 1 else 0, s) := by
  unfold f_X_hasBlock
  rw [ib_t hb, bd_s, if_neg h10]
  by_cases h : bt x b = false
  · rw [if_pos ((b_ask (by omega)).mpr h), h]; rfl
  · rw [if_neg (fun q => h ((b_ask (by omega)).mp q))]
    have h : bt x b = true := by simpa using h
    rw [h]; rfl
theorem wh5_spec {s s1 : tj_S} {b off : Nat} (hb : b < 23) (ho : off + 4 ≤ 96) (hm : f_Power_makeWrite s = some (1, s1)) : ∃ s2, f_Disk_writeHome_5 (nI b) (nI off) s = some (1, s2) ∧ sHm s1 s2 b (fun i => s1 5 (off + i)) := by
  unfold f_Disk_writeHome_5
  rw [hm, bd_s, if_neg h10, ib_t hb, bd_s, if_neg h10, show (nI b * 4 : Int32) = nI (4 * b) from by rw [Nat.mul_comm]; exact pk_mul b 4]
  rw [if_neg (nI_pos (by omega)), if_neg (by rw [show (nI off + 4 : Int32) = nI (off + 4) from nI_add _ 4, show ((96 : Int32) < nI (off + 4)) = (96 < off + 4) from lt_n (a := 96) (by omega) (by omega)]; omega)]
  have hcp : cpb (nI off) (nI (4 * b)) 4 96 92 = true := cp_ok (a := off) (b := 4 * b) (n := 4) (n0 := 96) (n1 := 92) (by omega) (by omega) (by omega) (by omega)
  rw [gd_t hcp, nm_s, cl_n (by omega), cl_n (by omega), show (4 : Int32).toNatClampNeg = 4 from rfl]
  refine ⟨_, rfl, fun a ha => st2_ne ha, fun i => ?_⟩
  rw [st2_eq]; rfl
theorem rp4_L {K b : Nat} (hK : K < 8) (hb : b < 23) (y : Int32) (k : Int32 → tj_S → Option (Int32 × tj_S)) : ∀ m w n (t : tj_S), w + m = 4 → f_Mod_replay_L44 (nI K) y (nI b) k (n + m + 1) (nI w) t = k (nI 4) (st2 t 1 (fun i => if 4 * b + w ≤ i ∧ i < 4 * b + 4 then t 8 (92 * K + i) else t 1 i)) := by
  intro m
  induction m with
  | zero =>
    intro w n t h
    have : w = 4 := by omega
    subst this
    rw [f_Mod_replay_L44, if_pos (by decide)]
    congr 1
    funext a
    by_cases q : a = 1
    · subst q; rw [st2_eq]; funext i; rw [if_neg (by omega)]
    · rw [st2_ne q]
  | succ m ih =>
    intro w n t h
    rw [show n + (m + 1) + 1 = (n + m + 1) + 1 by omega, f_Mod_replay_L44, if_neg (by rw [show ((4 : Int32) ≤ nI w) = (4 ≤ w) from le_n (a := 4) (by omega) (by omega)]; omega)]
    rw [lnM, ad92, nI_add, nI_add, gd_in (by omega) (by omega), gd_in (by omega) (by omega), nm_s, nm_s, cl_n (by omega), cl_n (by omega), nI_s]
    rw [ih (w + 1) n _ (by omega)]
    congr 1
    funext a
    by_cases q : a = 1
    · subst q; rw [st2_eq, st2_eq]; funext i
      rw [up2_ne (show 8 ≠ 1 by omega)]
      by_cases q1 : i = 4 * b + w
      · subst q1; rw [if_neg (by omega), if_pos (by omega), up2_at, show 92 * K + 4 * b + w = 92 * K + (4 * b + w) by omega]
      · by_cases q2 : 4 * b + w ≤ i ∧ i < 4 * b + 4
        · rw [if_pos (by omega), if_pos q2]
        · rw [if_neg (by omega), if_neg q2, up2_o q1]
    · rw [st2_ne q, st2_ne q, up2_ne q]
theorem rcv_vc {t t1 : tj_S} {b : Nat} {g : Nat → Int32} (h : tHm t t1 b g) {k w : Nat} (hw : w < 4) (hk : hs t k b = 1) : ∀ c, k < c → (∀ j, k < j → j < c → gn t j b ≠ 1) → rcv t1 b w c = rcv t b w c
  | 0, hc, _ => absurd hc (by omega)
  | c + 1, hc, hg => by
    have e1 : hs t1 c b = hs t c b := by unfold hs; rw [h.1 6 (by omega)]
    have e2 : gn t1 c b = gn t c b := by unfold gn; rw [h.1 7 (by omega)]
    unfold rcv
    rw [e1, e2, h.1 8 (by omega)]
    by_cases q : hs t c b = 1
    · rw [if_pos q, if_pos q]
    · have hkc : k ≠ c := fun e => q (e ▸ hk)
      rw [if_neg q, if_neg q, if_neg (hg c (by omega) (by omega)), if_neg (hg c (by omega) (by omega))]
      exact rcv_vc h hw hk c (by omega) (fun j h1 h2 => hg j h1 (by omega))
theorem lvc_gone {t : tj_S} {c k b : Nat} {fl : Bool} (h : lvc t c fl k b = true) : hs t k b = 1 ∧ ∀ j, k < j → j < c → gn t j b ≠ 1 := by
  unfold lvc ltr at h
  rw [Bool.and_eq_true, Bool.not_eq_true'] at h
  refine ⟨of_decide_eq_true h.1, fun j h1 h2 e => ?_⟩
  have : anyB (fun j => decide (gn t j b = 1) || (fl && decide (hs t j b = 1))) (k + 1) (c - (k + 1)) = true := (anyB_iff _).mpr ⟨j, by omega, by omega, by simp [e]⟩
  rw [this] at h
  exact absurd h.2 (by decide)
theorem lvc_congr {t u : tj_S} (h6 : u 6 = t 6) (h7 : u 7 = t 7) (c : Nat) (fl : Bool) (k b : Nat) : lvc u c fl k b = lvc t c fl k b := by
  unfold lvc ltr hs gn; rw [h6, h7]
/-- the part of the copies that has been gone through: transactions below K, and blocks below B of transaction K -/
def dn (K B k b : Nat) : Prop := k < K ∨ (k = K ∧ b < B)
/-- where copies were written, the latest stands at home -/
def qH (t : tj_S) (c : Nat) (fl : Bool) (K B : Nat) : Prop := ∀ k b, dn K B k b → b < 23 → lvc t c fl k b = true → (∀ k1, k < k1 → dn K B k1 b → lvc t c fl k1 b = false) → ∀ w, w < 4 → t 1 (4 * b + w) = t 8 (92 * k + 4 * b + w)
/-- only home and the power have changed -/
def tHP (t t1 : tj_S) : Prop := (∀ a, a ≠ 0 → a ≠ 1 → t1 a = t a) ∧ ∀ i, i ≠ 12 → i ≠ 14 → i ≠ 15 → t1 0 i = t 0 i
theorem rUp_hp {t t1 : tj_S} {c d : Nat} {e len : Nat → Nat} {rf rfC : Nat → Nat → Nat} (ht : tHP t t1) (hr : ∀ b w, w < 4 → rcv t1 b w c = rcv t b w c) (h : rUp t c d e len rf rfC) : rUp t1 c d e len rf rfC := by
  obtain ⟨ha, hb⟩ := ht
  unfold rUp at *
  rw [ha 2 (by omega) (by omega), ha 3 (by omega) (by omega), ha 4 (by omega) (by omega), hb 16 (by omega) (by omega) (by omega)]
  obtain ⟨q1, q2, q3, q4, q5, q6⟩ := h
  refine ⟨q1, ?_, q3, q4, fun b hb hj => ?_, q6⟩
  · rw [q2]; exact (hr 6 0 (by omega)).symm
  · obtain ⟨r1, r2⟩ := q5 b hb hj
    exact ⟨r1, fun w hw => by rw [hr b w hw]; exact r2 w hw⟩
theorem rci_eq {t t1 : tj_S} {c : Nat} (hr : ∀ b w, w < 4 → rcv t1 b w c = rcv t b w c) : rci t1 c = rci t c := by
  funext i; exact hr _ _ (Nat.mod_lt _ (by omega))
section rp
variable {c o d : Nat} {z ab e lenC len : Nat → Nat} {rfC rf : Nat → Nat → Nat}
def rPR (s t : tj_S) (c o d : Nat) (z ab e lenC len : Nat → Nat) (rfC rf : Nat → Nat → Nat) : Prop := rB s t c o d z ab e lenC rfC ∧ (t 0 12 = 1 → rUp t c d e len rf rfC)
theorem rPR_p {s t : tj_S} (h : rPR s t c o d z ab e lenC len rfC rf) : pRel s t := ⟨c, o, d, z, ab, e, lenC, rfC, h.1, fun q => ⟨len, rf, h.2 q⟩⟩
theorem rPR_hH {s t : tj_S} (h : rPR s t c o d z ab e lenC len rfC rf) : ∀ k, k < c → ∀ i, i < 23 → hs t k i = 0 ∨ hs t k i = 1 := fun k hk => (h.1.2.2.2.2.2.1.2.2.2.2.2.2.2.2 k hk).2.2.2.2.1.2
theorem rPR_hG {s t : tj_S} (h : rPR s t c o d z ab e lenC len rfC rf) : ∀ k, k < c → ∀ i, i < 23 → gn t k i = 0 ∨ gn t k i = 1 := fun k hk => (h.1.2.2.2.2.2.1.2.2.2.2.2.2.2.2 k hk).2.2.2.2.2.1.2
/-- one transaction's copies go home, on both sides -/
theorem rp_L {K : Nat} (hK : K < c) {fl : Bool} {y : Int32} (kx km : Int32 → tj_S → Option (Int32 × tj_S)) : ∀ m B n1 n2 (s t : tj_S), B + m = 23 → m < n1 → m < n2 → rPR s t c o d z ab e lenC len rfC rf → (∀ b, b < 23 → bt y b = lvc t c fl K b) → qH t c fl K B →
    ∃ (s1 t1 : tj_S), (f_Disk_writeCopiesHome_L2 (nI K) y kx n1 (nI B) s = some (0, s1) ∧ f_Mod_replay_L2 (nI K) (flI fl) km n2 (nI B) t = some (0, t1) ∧ pRel s1 t1) ∨
      (f_Disk_writeCopiesHome_L2 (nI K) y kx n1 (nI B) s = kx (nI 23) s1 ∧ f_Mod_replay_L2 (nI K) (flI fl) km n2 (nI B) t = km (nI 23) t1 ∧ rPR s1 t1 c o d z ab e lenC len rfC rf ∧ qH t1 c fl (K + 1) 0 ∧ tHP t t1 ∧ t1 0 12 = t 0 12 ∧ ∀ b w, w < 4 → rcv t1 b w c = rcv t b w c) := by
  intro m
  induction m with
  | zero =>
    intro B n1 n2 s t h hn1 hn2 hR hy hq
    obtain ⟨n1, rfl⟩ : ∃ n, n1 = n + 1 := ⟨n1 - 1, by omega⟩
    obtain ⟨n2, rfl⟩ : ∃ n, n2 = n + 1 := ⟨n2 - 1, by omega⟩
    have : B = 23 := by omega
    subst this
    rw [f_Disk_writeCopiesHome_L2, f_Mod_replay_L2, if_pos (by decide), if_pos (by decide)]
    refine ⟨s, t, Or.inr ⟨rfl, rfl, hR, ?_, ⟨fun _ _ _ => rfl, fun _ _ _ _ => rfl⟩, rfl, fun _ _ _ => rfl⟩⟩
    intro k b hd hb hl hno
    refine hq k b ?_ hb hl (fun k1 h1 h2 => hno k1 h1 ?_)
    · rcases hd with h | h
      · rcases Nat.lt_or_ge k K with q | q
        · exact Or.inl q
        · exact Or.inr ⟨by omega, hb⟩
      · omega
    · rcases h2 with h | h
      · exact Or.inl (by omega)
      · exact Or.inl (by omega)
  | succ m ih =>
    intro B n1 n2 s t h hn1 hn2 hR hy hq
    obtain ⟨n1, rfl⟩ : ∃ n, n1 = n + 1 := ⟨n1 - 1, by omega⟩
    obtain ⟨n2, rfl⟩ : ∃ n, n2 = n + 1 := ⟨n2 - 1, by omega⟩
    have hB23 : B < 23 := by omega
    have hL := hR.1.2.2.2.2.2.1
    have hc := hL.1
    have hlv := hy B hB23
    rw [f_Disk_writeCopiesHome_L2, f_Mod_replay_L2, if_neg (by rw [show ((23 : Int32) ≤ nI B) = (23 ≤ B) from le_n (a := 23) (by omega) (by omega)]; omega), if_neg (by rw [show ((23 : Int32) ≤ nI B) = (23 ≤ B) from le_n (a := 23) (by omega) (by omega)]; omega)]
    rw [hb_spec hB23, bd_s, hlv, ad23, gd_in (by omega) (by omega), cl_n (by omega), show t 6 (23 * K + B) = hs t K B from rfl]
    cases hlc : lvc t c fl K B with
    | false =>
      rw [if_pos (show (if false = true then (1 : Int32) else 0) = 0 from rfl), nm_s, nI_s]
      have hq2 : qH t c fl K (B + 1) := by
        intro k b hd hb hl hno
        refine hq k b ?_ hb hl (fun k1 h1 h2 => hno k1 h1 ?_)
        · rcases hd with h | ⟨h1, h2⟩
          · exact Or.inl h
          · rcases Nat.lt_or_ge b B with q | q
            · exact Or.inr ⟨h1, q⟩
            · have : b = B := by omega
              subst this; subst h1
              rw [hlc] at hl; exact absurd hl (by decide)
        · rcases h2 with h | ⟨h1, h2⟩
          · exact Or.inl h
          · exact Or.inr ⟨h1, by omega⟩
      obtain ⟨s1, t1, hh⟩ := ih (B + 1) n1 n2 s t (by omega) (by omega) (by omega) hR hy hq2
      rcases rPR_hH hR K hK B hB23 with e0 | e1
      · rw [if_pos e0, nm_s]; exact ⟨s1, t1, hh⟩
      · have hltr : ltr t c fl K B = true := by
          unfold lvc at hlc
          rw [decide_eq_true e1, Bool.true_and, Bool.not_eq_false'] at hlc
          exact hlc
        rw [if_neg (by rw [e1]; decide), la_spec hK hc hL.2.2.2.1 hB23 (rPR_hH hR) (rPR_hG hR) fl, bd_s, hltr, if_neg (by decide), nm_s]
        exact ⟨s1, t1, hh⟩
    | true =>
      obtain ⟨eh, hg⟩ := lvc_gone hlc
      have hltr : ltr t c fl K B = false := by
        unfold lvc at hlc
        rw [decide_eq_true eh, Bool.true_and, Bool.not_eq_true'] at hlc
        exact hlc
      rw [if_neg (by decide), if_neg (by rw [eh]; decide), la_spec hK hc hL.2.2.2.1 hB23 (rPR_hH hR) (rPR_hG hR) fl, bd_s, hltr, if_pos (show (if false = true then (1 : Int32) else 0) = 0 from rfl), co_spec hL hK hB23, bd_s]
      obtain ⟨r, s1, t1, p1, p2, hp, hs1, ht1, hc1⟩ := sp_spec hR.1.1
      have hB1 := rB_pow hs1 ht1 hp hR.1
      rw [p2, bd_s]
      rcases hc1 with ⟨rfl, hc1⟩ | ⟨rfl, hc1⟩
      · refine ⟨s1, t1, Or.inl ⟨?_, ?_, c, o, d, z, ab, e, lenC, rfC, hB1, fun q => by rw [hc1] at q; exact absurd q (by decide)⟩⟩
        · unfold f_Disk_writeHome_5
          rw [p1, bd_s, if_pos rfl, bd_s, if_pos rfl]
        · rw [if_pos rfl]
      · obtain ⟨s2, w1, w2⟩ := wh5_spec (b := B) (off := 4 * ((ab K + cn (hs t K) B + cn (hs t K) B / 4 + 1) % 24)) hB23 (by omega) p1
        rw [w1, bd_s, if_neg h10, if_neg h10, nm_s, nI_s]
        have rl := rp4_L (K := K) (b := B) (by omega) hB23 (flI fl) (fun x26 s27 => nm (nI (B + 1)) fun x28 => f_Mod_replay_L2 (nI K) (flI fl) km n2 x28 s27) 4 0 95 t1 (by omega)
        rw [show (0 : Int32) = nI 0 from rfl, show (100 : Nat) = 95 + 4 + 1 from rfl, rl, nm_s]
        generalize ht2 : st2 t1 1 (fun i => if 4 * B + 0 ≤ i ∧ i < 4 * B + 4 then t1 8 (92 * K + i) else t1 1 i) = t2
        have hL1 := hB1.2.2.2.2.2.1
        have htx := (hL.2.2.2.2.2.2.2.2 K hK).2.2.2.2.2.2.2.2 B hB23 eh
        have htm : tHm t1 t2 B (fun i => s1 5 (4 * ((ab K + cn (hs t K) B + cn (hs t K) B / 4 + 1) % 24) + i)) := by
          subst ht2
          refine ⟨fun a ha => st2_ne ha, fun i => ?_⟩
          rw [st2_eq]
          by_cases q : 4 * B ≤ i ∧ i < 4 * B + 4
          · rw [if_pos (by omega), if_pos q, hs1 5 (by omega)]
            dsimp only
            rw [htx (i - 4 * B) (by omega), ht1.1 8 (by omega), show 92 * K + 4 * B + (i - 4 * B) = 92 * K + i by omega]
          · rw [if_neg (by omega), if_neg q]
        have hrc : ∀ b w, w < 4 → rcv t2 b w c = rcv t b w c := by
          intro b w hw
          have e1 : rcv t1 b w c = rcv t b w c := rcv_congr (ht1.1 1 (by omega)) (ht1.1 6 (by omega)) (ht1.1 7 (by omega)) (ht1.1 8 (by omega)) b w c
          by_cases q : b = B
          · subst q
            have e2 : hs t1 K b = 1 := by unfold hs; rw [ht1.1 6 (by omega)]; exact eh
            rw [rcv_vc htm hw e2 c hK (fun j h1 h2 => by unfold gn; rw [ht1.1 7 (by omega)]; exact hg j h1 h2), e1]
          · rw [rcv_hm htm q hw, e1]
        have hhp : tHP t t2 := ⟨fun a h0 h1 => by rw [htm.1 a h1, ht1.1 a h0], fun i h1 h2 h3 => by rw [htm.1 0 (by omega), ht1.2 i h1 h2 h3]⟩
        have h12 : t2 0 12 = t 0 12 := by rw [htm.1 0 (by omega), hc1]
        have hR2 : rPR s2 t2 c o d z ab e lenC len rfC rf := by
          refine ⟨rB_hm w2 htm hB1 ?_, fun q => rUp_hp hhp hrc (hR.2 (h12 ▸ q))⟩
          rw [rci_eq hrc]; exact hR.1.2.2.2.2.2.2
        have h6 : t2 6 = t 6 := hhp.1 6 (by omega) (by omega)
        have h7 : t2 7 = t 7 := hhp.1 7 (by omega) (by omega)
        have hq2 : qH t2 c fl K (B + 1) := by
          intro k b hd hb hl hno w hw
          rw [lvc_congr h6 h7] at hl
          have hno2 : ∀ k1, k < k1 → dn K (B + 1) k1 b → lvc t c fl k1 b = false := fun k1 h1 h2 => by rw [← lvc_congr h6 h7]; exact hno k1 h1 h2
          rw [htm.2, hhp.1 8 (by omega) (by omega)]
          by_cases q : b = B
          · subst q
            have hk : k = K := by
              rcases Nat.lt_or_ge k K with q | q
              · have := hno2 K q (Or.inr ⟨rfl, by omega⟩)
                rw [hlc] at this; exact absurd this (by decide)
              · rcases hd with h | ⟨h, -⟩ <;> omega
            subst hk
            rw [if_pos (by omega), show 4 * b + w - 4 * b = w by omega, hs1 5 (by omega)]
            exact htx w hw
          · rw [if_neg (by omega), ht1.1 1 (by omega)]
            refine hq k b ?_ hb hl (fun k1 h1 h2 => hno2 k1 h1 ?_) w hw
            · rcases hd with h | ⟨h1, h2⟩
              · exact Or.inl h
              · exact Or.inr ⟨h1, by omega⟩
            · rcases h2 with h | ⟨h1, h2⟩
              · exact Or.inl h
              · exact Or.inr ⟨h1, by omega⟩
        obtain ⟨s3, t3, hh⟩ := ih (B + 1) n1 n2 s2 t2 (by omega) (by omega) (by omega) hR2 (fun b hb => by rw [lvc_congr h6 h7]; exact hy b hb) hq2
        refine ⟨s3, t3, ?_⟩
        rcases hh with ⟨h1, h2, h3⟩ | ⟨h1, h2, h3, h4, h5, h6, h7⟩
        · exact Or.inl ⟨h1, h2, h3⟩
        · exact Or.inr ⟨h1, h2, h3, h4, ⟨fun a x y => by rw [h5.1 a x y, hhp.1 a x y], fun i x y z => by rw [h5.2 i x y z, hhp.2 i x y z]⟩, by rw [h6, h12], fun b w hw => by rw [h7 b w hw, hrc b w hw]⟩
end rp
