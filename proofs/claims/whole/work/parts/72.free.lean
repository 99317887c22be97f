def sMm (s s1 : tj_S) : Prop := (∀ a, a ≠ 10 → a ≠ 11 → a ≠ 12 → s1 a = s a) ∧ s1 10 5 = s 10 5
def tMm (t t1 : tj_S) : Prop := (∀ a, a ≠ 0 → a ≠ 2 → a ≠ 3 → a ≠ 4 → a ≠ 5 → t1 a = t a) ∧ ∀ i, i ≠ 5 → t1 0 i = t 0 i
theorem sMm_t {s s1 s2 : tj_S} (h1 : sMm s s1) (h2 : sMm s1 s2) : sMm s s2 := ⟨fun a x y z => by rw [h2.1 a x y z, h1.1 a x y z], by rw [h2.2, h1.2]⟩
theorem tMm_t {t t1 t2 : tj_S} (h1 : tMm t t1) (h2 : tMm t1 t2) : tMm t t2 := ⟨fun a x y z v w => by rw [h2.1 a x y z v w, h1.1 a x y z v w], fun i hi => by rw [h2.2 i hi, h1.2 i hi]⟩
/-- the memories of both sides in the middle of an operation; J: what the class has joined -/
def mR (s t : tj_S) (J : Nat → Int32) (d : Nat) (e : Nat → Nat) (rf : Nat → Nat → Nat) : Prop :=
  (∀ i, i < 92 → s 11 i = t 2 i) ∧ mk (s 10 3) J ∧ mk (s 10 4) (t 4) ∧ rDir s t d e ∧ (∀ f, f < 6 → fsG (t 2) (rf f) f) ∧ uniq rf ∧ mapW (t 2 24) rf
def relK (at_ a2 b : Int32) : Int32 → Int32 → tj_S → Option tj_S := fun x32 x33 s34 =>
    if a2 = (0 : Int32) then
      some s34
    else
      if (s34 0 13) = (2 : Int32) then
        some s34
      else
        if x32 = (0 : Int32) then
          some s34
        else
          gd (inb b 23) <|
          nm (up2 s34 4 (Int32.toNatClampNeg b) (vp_nar .boolean (1 : Int32))) fun s36 =>
          some s36
theorem rel_eq (p a2 : Int32) (t : tj_S) : f_Mod_release p a2 t =
  (gd (inb p 92) <|
  nm ((t 2 (Int32.toNatClampNeg p))) fun x2 =>
  gd (inb p 92) <|
  nm (up2 t 2 (Int32.toNatClampNeg p) (0 : Int32)) fun s4 =>
  gd (inb x2 23) <|
  nm (up2 s4 3 (Int32.toNatClampNeg x2) (vp_nar .boolean (0 : Int32))) fun s6 =>
  bv (f_Mod_clean x2 s6) fun s8 =>
  bv (f_Mod_remap s8) fun s10 =>
  f_Mod_release_L36 p a2 x2 (relK p a2 x2) 100 (0 : Int32) (0 : Int32) s10) := rfl
/-- a block is freed on both sides (the class's entry still stands) -/
theorem fr_spec {s t : tj_S} {J : Nat → Int32} {d : Nat} {e : Nat → Nat} {rf rf1 : Nat → Nat → Nat} (h : mR s t J d e rf) {b p : Nat} (h7 : 7 ≤ b) (hb : b < 23) (hp : p < 92) (hp24 : p ≠ 24) (hv : t 2 p = nI b) (hG1 : ∀ g, g < 6 → fsG (upd (t 2) p 0) (rf1 g) g) (hm1 : mapW (t 2 24 &&& (((1 : Int32) <<< (nI (b - 7) &&& 31)) ^^^ (-1))) rf1) : ∃ (d1 : Nat) (e1 : Nat → Nat) (s1 t1 : tj_S), f_Mem_freeBlock (nI b) s = some s1 ∧ (∀ a2, f_Mod_release (nI p) a2 t = f_Mod_release_L36 (nI p) a2 (nI b) (relK (nI p) a2 (nI b)) 100 (0 : Int32) (0 : Int32) t1) ∧
    (∀ i, i < 92 → s1 11 i = if i = 24 then t1 2 24 else s 11 i) ∧ (∀ i, t1 2 i = if i = 24 then t1 2 24 else if i = p then 0 else t 2 i) ∧ mk (s1 10 3) (upd (upd J 6 1) b 0) ∧ s1 10 4 = s 10 4 ∧ t1 3 = upd (upd (t 3) b 0) 6 1 ∧ t1 4 = t 4 ∧ rDir s1 t1 d1 e1 ∧ (∀ i, i < d1 → ∃ j, j < d ∧ e1 i = e j ∧ e j ≠ b) ∧ (∀ g, g < 6 → fsG (t1 2) (rf1 g) g) ∧ mapW (t1 2 24) rf1 ∧ sMm s s1 ∧ tMm t t1 := by
  obtain ⟨g1, g2, g3, g4, g5, g6, g7⟩ := h
  -- the class before it cleans
  obtain ⟨x, hx⟩ : ∃ x, x = t 2 24 &&& (((1 : Int32) <<< (nI (b - 7) &&& 31)) ^^^ (-1)) := ⟨_, rfl⟩
  rw [← hx] at hm1
  have c24 : (24 : Int32).toNatClampNeg = 24 := by decide +kernel
  have f1 : ∀ k : tj_S → Option tj_S, f_Mem_freeBlock (nI b) s = bv (f_Mem_makeClean (nI b) (up2 (up2 (up2 s 11 24 x) 10 3 (s 10 3 ||| ((1 : Int32) <<< (nI 6 &&& 31)))) 10 3 ((s 10 3 ||| ((1 : Int32) <<< (nI 6 &&& 31))) &&& (((1 : Int32) <<< (nI b &&& 31)) ^^^ (-1))))) fun s13 => some s13 := by
    intro _
    unfold f_Mem_freeBlock f_Mem_blocksInUse
    rw [ip_t h7 hb, bd_s, if_neg h10, gd_t (show inb (24 : Int32) 92 = true from by decide +kernel), bd_s, c24, show (nI b - 7 : Int32) = nI (b - 7) from pk_sub (b := 7) h7, g1 24 (by omega), ← hx]
    rw [show (6 : Int32) = nI 6 from rfl, show (0 : Int32) = nI 0 from rfl, sw_spec (by omega) (by omega), bv_s, jn_spec (by omega), bv_s, nm_s, up2_at, up2_ne (show 10 ≠ 11 by omega)]
  generalize hs2 : up2 (up2 (up2 s 11 24 x) 10 3 (s 10 3 ||| ((1 : Int32) <<< (nI 6 &&& 31)))) 10 3 ((s 10 3 ||| ((1 : Int32) <<< (nI 6 &&& 31))) &&& (((1 : Int32) <<< (nI b &&& 31)) ^^^ (-1))) = s2 at f1
  have a11 : s2 11 = upd (s 11) 24 x := by rw [← hs2, up2_ne (by omega), up2_ne (by omega), up2_eq]
  have a103 : s2 10 3 = (s 10 3 ||| ((1 : Int32) <<< (nI 6 &&& 31))) &&& (((1 : Int32) <<< (nI b &&& 31)) ^^^ (-1)) := by rw [← hs2, up2_at]
  have a10 : ∀ i, i ≠ 3 → s2 10 i = s 10 i := fun i hi => by rw [← hs2, up2_o hi, up2_o hi, up2_ne (by omega)]
  have ao : ∀ a, a ≠ 10 → a ≠ 11 → s2 a = s a := fun a y z => by rw [← hs2, up2_ne y, up2_ne y, up2_ne z]
  -- the reference before it cleans
  obtain ⟨t2, ht2⟩ : ∃ t2, t2 = up2 (up2 t 2 p 0) 3 b 0 := ⟨_, rfl⟩
  have b2 : t2 2 = upd (t 2) p 0 := by rw [ht2, up2_ne (by omega), up2_eq]
  have b3 : t2 3 = upd (t 3) b 0 := by rw [ht2, up2_eq, up2_ne (by omega)]
  have bo : ∀ a, a ≠ 2 → a ≠ 3 → t2 a = t a := fun a y z => by rw [ht2, up2_ne z, up2_ne y]
  have hD2 : rDir s2 t2 d e := by
    unfold rDir at *
    rw [a10 2 (by omega), ao 12 (by omega) (by omega), bo 0 (by omega) (by omega), bo 5 (by omega) (by omega)]; exact g4
  obtain ⟨d1, e1, s3, t3, m1, m2, m3, m4, m5, m6, m7⟩ := mc_spec (b := b) hD2 (by omega)
  have k2 : t3 2 = upd (t 2) p 0 := by rw [m5.1 2 (by omega) (by omega), b2]
  have hr := rm_spec (t := t3) (rf := rf1) (by rw [k2]; exact hG1) hm1
  refine ⟨d1, e1, s3, up2 (up2 t3 2 24 x) 3 6 1, ?_, fun a2 => ?_, fun i hi => ?_, fun i => ?_, ?_, ?_, ?_, ?_, ?_, m6, ?_, ?_, ⟨fun a y z w => ?_, ?_⟩, ⟨fun a y z v w u => ?_, fun i hi => ?_⟩⟩
  · rw [f1 some, m1, bv_s]
  · rw [rel_eq, gd_in hp (by omega), nm_s, gd_in hp (by omega), nm_s, cl_n (by omega), hv, gd_in hb (by omega), nm_s, cl_n (by omega), vn01 (Or.inl rfl), ← ht2, m2, bv_s, hr, bv_s]
  · rw [m4.1 11 (by omega) (by omega), a11, up2_ne (show 2 ≠ 3 by omega), up2_at]; rfl
  · rw [up2_ne (show 2 ≠ 3 by omega), up2_at, up2_eq, k2]; rfl
  · rw [m4.2 3 (by omega), a103]; exact mk_clr hb (mk_set (by omega) g2)
  · rw [m4.2 4 (by omega), a10 4 (by omega)]
  · rw [up2_eq, up2_ne (by omega), m5.1 3 (by omega) (by omega), b3]
  · rw [up2_ne (by omega), up2_ne (by omega), m5.1 4 (by omega) (by omega), bo 4 (by omega) (by omega)]
  · unfold rDir at *
    rw [up2_ne (show 0 ≠ 3 by omega), up2_ne (show 0 ≠ 2 by omega), up2_ne (show 5 ≠ 3 by omega), up2_ne (show 5 ≠ 2 by omega)]; exact m3
  · intro g hg
    have := G_frame (w := upd (t 2) p 0) (w1 := up2 (up2 t3 2 24 x) 3 6 1 2) hG1 (fun g hg j j1 j2 => by rw [up2_ne (show 2 ≠ 3 by omega), up2_o (by omega), k2]) (fun g hg q j hj => by
      have := ((hG1 g hg).2.2.2.1 6 (by omega)).2 q
      rw [up2_ne (show 2 ≠ 3 by omega), up2_o (by omega), k2])
    exact this g hg
  · rw [up2_ne (show 2 ≠ 3 by omega), up2_at]; exact hm1
  · rw [m4.1 a y w, ao a y z]
  · rw [m4.2 5 (by omega), a10 5 (by omega)]
  · rw [up2_ne v, up2_ne z, m5.1 a y u, bo a z v]
  · rw [up2_ne (by omega), up2_ne (by omega), m5.2 i hi, bo 0 (by omega) (by omega)]
/-- is there a live copy of b: both sides -/
def liveB (t : tj_S) (c b : Nat) : Bool := anyB (fun k => lvc t c true k b) 0 c
theorem rl_L {t : tj_S} {c b : Nat} (hb : b < 23) (hc : c ≤ 8) (h10' : t 0 10 = nI c) (hH : ∀ k, k < c → ∀ i, i < 23 → hs t k i = 0 ∨ hs t k i = 1) (hG : ∀ k, k < c → ∀ i, i < 23 → gn t k i = 0 ∨ gn t k i = 1) (y1 y2 : Int32) (k : Int32 → Int32 → tj_S → Option tj_S) : ∀ m i n (v : Bool), i + m = c → m < n → f_Mod_release_L36 y1 y2 (nI b) k n (flI v) (nI i) t = k (flI (v || anyB (fun k => lvc t c true k b) i m)) (nI c) t := by
  intro m
  induction m with
  | zero =>
    intro i n v h hn
    obtain ⟨n, rfl⟩ : ∃ m, n = m + 1 := ⟨n - 1, by omega⟩
    have : i = c := by omega
    subst this
    rw [f_Mod_release_L36, h10', if_pos (Int32.le_refl _)]
    simp [anyB]
  | succ m ih =>
    intro i n v h hn
    obtain ⟨n, rfl⟩ : ∃ m, n = m + 1 := ⟨n - 1, by omega⟩
    rw [f_Mod_release_L36, h10', if_neg (by rw [le_n (by omega) (by omega)]; omega), anyS]
    cases v with
    | true =>
      rw [if_neg (show ¬ flI true = 0 from by decide), nm_s, nI_s, show (1 : Int32) = flI true from rfl, ih (i + 1) n true (by omega) (by omega)]
      simp
    | false =>
      rw [if_pos (show flI false = 0 from rfl), ad23, gd_in (by omega) (by omega), cl_n (by omega), show t 6 (23 * i + b) = hs t i b from rfl]
      rcases hH i (by omega) b hb with e0 | e1
      · have : lvc t c true i b = false := by unfold lvc; rw [e0]; simp
        rw [if_pos e0, nm_s, nI_s, show (0 : Int32) = flI false from rfl, ih (i + 1) n false (by omega) (by omega), this]
        simp
      · rw [if_neg (by rw [e1]; decide), show (1 : Int32) = flI true from rfl, la_spec (by omega) hc h10' hb hH hG true, bd_s]
        cases hl : ltr t c true i b
        · have : lvc t c true i b = true := by unfold lvc; rw [e1, hl]; simp
          rw [if_pos (show (if false = true then (1 : Int32) else 0) = 0 from rfl), nm_s, nI_s, ih (i + 1) n true (by omega) (by omega), this]
          simp
        · have : lvc t c true i b = false := by unfold lvc; rw [hl]; simp
          rw [if_neg (show ¬ (if true = true then (1 : Int32) else 0) = 0 from by decide), nm_s, nI_s, show (0 : Int32) = flI false from rfl, ih (i + 1) n false (by omega) (by omega), this]
          simp
theorem hl_L {s t : tj_S} {c o b : Nat} {z ab : Nat → Nat} (hL : rLog s t c o z ab) (hb : b < 23) (k : Int32 → tj_S → Option (Int32 × tj_S)) : ∀ m i n, i + m = c → m < n → f_Log_hasLiveCopy_L2 (nI b) k n (nI i) s = if anyB (fun k => lvc t c true k b) i m = true then some (1, s) else k (nI c) s := by
  have hc := hL.1
  intro m
  induction m with
  | zero =>
    intro i n h hn
    obtain ⟨n, rfl⟩ : ∃ m, n = m + 1 := ⟨n - 1, by omega⟩
    have : i = c := by omega
    subst this
    rw [f_Log_hasLiveCopy_L2, hL.2.2.1, if_pos (Int32.le_refl _), if_neg (by simp [anyB])]
  | succ m ih =>
    intro i n h hn
    obtain ⟨n, rfl⟩ : ∃ m, n = m + 1 := ⟨n - 1, by omega⟩
    obtain ⟨y, y1, y2⟩ := lv_spec hL (k := i) (by omega)
    rw [f_Log_hasLiveCopy_L2, hL.2.2.1, if_neg (by rw [le_n (by omega) (by omega)]; omega), y1, bd_s, hb_spec hb, bd_s, y2 b hb, anyS]
    cases lvc t c true i b
    · rw [if_pos (show (if false = true then (1 : Int32) else 0) = 0 from rfl), nm_s, nI_s, ih (i + 1) n (by omega) (by omega)]
      simp
    · rw [if_neg (show ¬ (if true = true then (1 : Int32) else 0) = 0 from by decide)]
      simp
theorem hl_spec {s t : tj_S} {c o b : Nat} {z ab : Nat → Nat} (hL : rLog s t c o z ab) (hb : b < 23) : f_Log_hasLiveCopy (nI b) s = some (flI (liveB t c b), s) := by
  have hc := hL.1
  unfold f_Log_hasLiveCopy liveB
  rw [show (0 : Int32) = nI 0 from rfl, hl_L hL hb _ c 0 100 (by omega) (by omega)]
  unfold flI
  split <;> rfl
