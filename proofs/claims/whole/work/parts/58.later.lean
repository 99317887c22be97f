def anyB (p : Nat → Bool) (a : Nat) : Nat → Bool
  | 0 => false
  | n + 1 => anyB p a n || p (a + n)
theorem anyB_or {p q : Nat → Bool} {a : Nat} : ∀ n, anyB (fun j => p j || q j) a n = (anyB p a n || anyB q a n)
  | 0 => rfl
  | n + 1 => by
    show (anyB _ a n || (p (a + n) || q (a + n))) = ((anyB p a n || p (a + n)) || (anyB q a n || q (a + n)))
    rw [anyB_or n]
    cases anyB p a n <;> cases anyB q a n <;> cases p (a + n) <;> cases q (a + n) <;> rfl
theorem anyB_iff {p : Nat → Bool} {a : Nat} : ∀ n, anyB p a n = true ↔ ∃ j, a ≤ j ∧ j < a + n ∧ p j = true
  | 0 => ⟨fun h => absurd h (by simp [anyB]), fun ⟨j, h1, h2, _⟩ => absurd h2 (by omega)⟩
  | n + 1 => by
    show (anyB p a n || p (a + n)) = true ↔ _
    rw [Bool.or_eq_true, anyB_iff n]
    constructor
    · rintro (⟨j, h1, h2, h3⟩ | h)
      · exact ⟨j, h1, by omega, h3⟩
      · exact ⟨a + n, by omega, by omega, h⟩
    · rintro ⟨j, h1, h2, h3⟩
      by_cases q : j = a + n
      · right; rw [← q]; exact h3
      · left; exact ⟨j, h1, by omega, h3⟩
theorem ub8_L {s t : tj_S} {c o : Nat} {z ab : Nat → Nat} (hL : rLog s t c o z ab) {a : Nat} (y : Int32) (k : Int32 → Int32 → tj_S → Option (Int32 × tj_S)) : ∀ m j n (x : Int32), j + m = c → a ≤ j → m < n → (∀ i, i < 32 → bt x i = (decide (i < 23) && anyB (fun q => decide (hs t q i = 1)) a (j - a))) →
    ∃ x1 : Int32, f_Log_unionBehind_8_L7 y k n x (nI j) s = k x1 (nI c) s ∧ ∀ i, i < 32 → bt x1 i = (decide (i < 23) && anyB (fun q => decide (hs t q i = 1)) a (c - a)) := by
  obtain ⟨hc, ho, e1, e2, e3, e4, e5, hab, hT⟩ := hL
  intro m
  induction m with
  | zero =>
    intro j n x h ha hn hx
    obtain ⟨n, rfl⟩ : ∃ m, n = m + 1 := ⟨n - 1, by omega⟩
    have : j = c := by omega
    subst this
    rw [f_Log_unionBehind_8_L7, e1, if_pos (Int32.le_refl _)]
    exact ⟨x, rfl, hx⟩
  | succ m ih =>
    intro j n x h ha hn hx
    obtain ⟨n, rfl⟩ : ∃ m, n = m + 1 := ⟨n - 1, by omega⟩
    rw [f_Log_unionBehind_8_L7, e1, if_neg (by rw [le_n (by omega) (by omega)]; omega), sl_spec e3 (by omega) (by omega), bd_s, gd_in (Nat.mod_lt _ (by omega)) (by omega), cl_n (by omega), nm_s, nm_s, nI_s]
    refine ih (j + 1) n _ (by omega) (by omega) (by omega) (fun i hi => ?_)
    rw [b_or, hx i hi, show j + 1 - a = (j - a) + 1 by omega]
    show _ = (decide (i < 23) && (anyB _ a (j - a) || decide (hs t (a + (j - a)) i = 1)))
    rw [show a + (j - a) = j by omega]
    obtain ⟨-, -, -, -, q5, q6, -⟩ := hT j (by omega)
    rw [q5.1 i hi]
    cases decide (i < 23) <;> simp
theorem ub8_spec {s t : tj_S} {c o : Nat} {z ab : Nat → Nat} (hL : rLog s t c o z ab) {k : Nat} (hk : k < c) : ∃ x1 : Int32, f_Log_unionBehind_8 (nI k) s = some (x1, s) ∧ ∀ i, i < 32 → bt x1 i = (decide (i < 23) && anyB (fun q => decide (hs t q i = 1)) (k + 1) (c - (k + 1))) := by
  have hc := hL.1
  unfold f_Log_unionBehind_8
  rw [nm_s, nI_1]
  obtain ⟨x1, h1, h2⟩ := ub8_L hL (a := k + 1) (nI k) (fun x16 x17 s18 => some (x16, s18)) (c - (k + 1)) (k + 1) 100 0 (by omega) (by omega) (by omega) (fun i hi => by rw [b_0, Nat.sub_self]; simp [anyB])
  exact ⟨x1, h1, h2⟩
theorem ub9_L {s t : tj_S} {c o : Nat} {z ab : Nat → Nat} (hL : rLog s t c o z ab) {a : Nat} (y : Int32) (k : Int32 → Int32 → tj_S → Option (Int32 × tj_S)) : ∀ m j n (x : Int32), j + m = c → a ≤ j → m < n → (∀ i, i < 32 → bt x i = (decide (i < 23) && anyB (fun q => decide (gn t q i = 1)) a (j - a))) →
    ∃ x1 : Int32, f_Log_unionBehind_9_L7 y k n x (nI j) s = k x1 (nI c) s ∧ ∀ i, i < 32 → bt x1 i = (decide (i < 23) && anyB (fun q => decide (gn t q i = 1)) a (c - a)) := by
  obtain ⟨hc, ho, e1, e2, e3, e4, e5, hab, hT⟩ := hL
  intro m
  induction m with
  | zero =>
    intro j n x h ha hn hx
    obtain ⟨n, rfl⟩ : ∃ m, n = m + 1 := ⟨n - 1, by omega⟩
    have : j = c := by omega
    subst this
    rw [f_Log_unionBehind_9_L7, e1, if_pos (Int32.le_refl _)]
    exact ⟨x, rfl, hx⟩
  | succ m ih =>
    intro j n x h ha hn hx
    obtain ⟨n, rfl⟩ : ∃ m, n = m + 1 := ⟨n - 1, by omega⟩
    rw [f_Log_unionBehind_9_L7, e1, if_neg (by rw [le_n (by omega) (by omega)]; omega), sl_spec e3 (by omega) (by omega), bd_s, gd_in (Nat.mod_lt _ (by omega)) (by omega), cl_n (by omega), nm_s, nm_s, nI_s]
    refine ih (j + 1) n _ (by omega) (by omega) (by omega) (fun i hi => ?_)
    rw [b_or, hx i hi, show j + 1 - a = (j - a) + 1 by omega]
    show _ = (decide (i < 23) && (anyB _ a (j - a) || decide (gn t (a + (j - a)) i = 1)))
    rw [show a + (j - a) = j by omega]
    obtain ⟨-, -, -, -, q5, q6, -⟩ := hT j (by omega)
    rw [q6.1 i hi]
    cases decide (i < 23) <;> simp
theorem ub9_spec {s t : tj_S} {c o : Nat} {z ab : Nat → Nat} (hL : rLog s t c o z ab) {k : Nat} (hk : k < c) : ∃ x1 : Int32, f_Log_unionBehind_9 (nI k) s = some (x1, s) ∧ ∀ i, i < 32 → bt x1 i = (decide (i < 23) && anyB (fun q => decide (gn t q i = 1)) (k + 1) (c - (k + 1))) := by
  have hc := hL.1
  unfold f_Log_unionBehind_9
  rw [nm_s, nI_1]
  obtain ⟨x1, h1, h2⟩ := ub9_L hL (a := k + 1) (nI k) (fun x16 x17 s18 => some (x16, s18)) (c - (k + 1)) (k + 1) 100 0 (by omega) (by omega) (by omega) (fun i hi => by rw [b_0, Nat.sub_self]; simp [anyB])
  exact ⟨x1, h1, h2⟩
/-- is there a later revoke (or, for live copies, a later copy) of block b behind transaction k -/
def ltr (t : tj_S) (c : Nat) (fl : Bool) (k b : Nat) : Bool := anyB (fun j => decide (gn t j b = 1) || (fl && decide (hs t j b = 1))) (k + 1) (c - (k + 1))
/-- the copy of b in transaction k is one to write home -/
def lvc (t : tj_S) (c : Nat) (fl : Bool) (k b : Nat) : Bool := decide (hs t k b = 1) && !ltr t c fl k b
theorem lv_spec {s t : tj_S} {c o : Nat} {z ab : Nat → Nat} (hL : rLog s t c o z ab) {k : Nat} (hk : k < c) : ∃ x1 : Int32, f_Log_liveCopies (nI k) s = some (x1, s) ∧ ∀ b, b < 23 → bt x1 b = lvc t c true k b := by
  obtain ⟨u, u1, u2⟩ := ub8_spec hL hk
  obtain ⟨v, v1, v2⟩ := ub9_spec hL hk
  have hc := hL.1
  have ho := hL.2.1
  unfold f_Log_liveCopies
  rw [sl_spec hL.2.2.2.2.1 (by omega) (by omega), bd_s, gd_in (Nat.mod_lt _ (by omega)) (by omega), u1, bd_s, v1, bd_s, cl_n (by omega)]
  refine ⟨_, rfl, fun b hb => ?_⟩
  obtain ⟨-, -, -, -, q5, q6, -⟩ := hL.2.2.2.2.2.2.2.2 k hk
  rw [b_and, b_not (by omega), b_or, u2 b (by omega), v2 b (by omega), mk_bit q5 hb, decide_eq_true hb]
  unfold lvc ltr
  simp only [Bool.true_and]
  rw [anyB_or, Bool.or_comm]
theorem cr_spec {s t : tj_S} {c o : Nat} {z ab : Nat → Nat} (hL : rLog s t c o z ab) {k : Nat} (hk : k < c) : ∃ x1 : Int32, f_Log_copiesToRecover (nI k) s = some (x1, s) ∧ ∀ b, b < 23 → bt x1 b = lvc t c false k b := by
  obtain ⟨v, v1, v2⟩ := ub9_spec hL hk
  have hc := hL.1
  have ho := hL.2.1
  unfold f_Log_copiesToRecover
  rw [sl_spec hL.2.2.2.2.1 (by omega) (by omega), bd_s, gd_in (Nat.mod_lt _ (by omega)) (by omega), v1, bd_s, cl_n (by omega)]
  refine ⟨_, rfl, fun b hb => ?_⟩
  obtain ⟨-, -, -, -, q5, q6, -⟩ := hL.2.2.2.2.2.2.2.2 k hk
  rw [b_and, b_not (by omega), v2 b (by omega), mk_bit q5 hb, decide_eq_true hb]
  unfold lvc ltr
  simp only [Bool.true_and, Bool.false_and, Bool.or_false]
theorem ad23 {k b : Nat} : (23 * nI k + nI b : Int32) = nI (23 * k + b) := by
  rw [show (23 * nI k : Int32) = nI (23 * k) from pk_mul 23 k, nI_add]
theorem ad92 {k b : Nat} : (92 * nI k + nI b : Int32) = nI (92 * k + b) := by
  rw [show (92 * nI k : Int32) = nI (92 * k) from pk_mul 92 k, nI_add]
def flI (fl : Bool) : Int32 := if fl = true then 1 else 0
theorem la_L {t : tj_S} {c b : Nat} (hc : c ≤ 8) (h10 : t 0 10 = nI c) (hb : b < 23) (hH : ∀ k, k < c → ∀ i, i < 23 → hs t k i = 0 ∨ hs t k i = 1) (hG : ∀ k, k < c → ∀ i, i < 23 → gn t k i = 0 ∨ gn t k i = 1) (fl : Bool) (y : Int32) (k : Int32 → tj_S → Option (Int32 × tj_S)) : ∀ m j n, j + m = c → m < n →
    f_Mod_later_L5 y (nI b) (flI fl) k n (nI j) t = if anyB (fun j => decide (gn t j b = 1) || (fl && decide (hs t j b = 1))) j m = true then some (1, t) else k (nI c) t := by
  have anyS : ∀ (p : Nat → Bool) (a n : Nat), anyB p a (n + 1) = (p a || anyB p (a + 1) n) := by
    intro p a n
    induction n with
    | zero => simp [anyB]
    | succ n ih =>
      show (anyB p a (n + 1) || p (a + (n + 1))) = (p a || (anyB p (a + 1) n || p (a + 1 + n)))
      rw [ih, Bool.or_assoc, show a + (n + 1) = a + 1 + n by omega]
  intro m
  induction m with
  | zero =>
    intro j n h hn
    obtain ⟨n, rfl⟩ : ∃ m, n = m + 1 := ⟨n - 1, by omega⟩
    have : j = c := by omega
    subst this
    rw [f_Mod_later_L5, h10, if_pos (Int32.le_refl _), if_neg (by simp [anyB])]
  | succ m ih =>
    intro j n h hn
    obtain ⟨n, rfl⟩ : ∃ m, n = m + 1 := ⟨n - 1, by omega⟩
    rw [f_Mod_later_L5, h10, if_neg (by rw [le_n (by omega) (by omega)]; omega), ad23, gd_in (by omega) (by omega), cl_n (by omega), anyS]
    have g : t 7 (23 * j + b) = gn t j b := rfl
    have hq : t 6 (23 * j + b) = hs t j b := rfl
    rw [g, hq]
    have ihj := ih (j + 1) n (by omega) (by omega)
    rcases hG j (by omega) b hb with e1 | e1
    · rw [if_pos e1, e1]
      cases fl with
      | false =>
        rw [if_pos (by rfl), nm_s, nI_s, ihj]
        simp
      | true =>
        rw [if_neg (by decide), gd_in (by omega) (by omega)]
        rcases hH j (by omega) b hb with e2 | e2
        · rw [if_pos e2, nm_s, nI_s, ihj, e2]
          simp
        · rw [if_neg (by rw [e2]; decide), e2, if_pos (by simp)]
    · rw [if_neg (by rw [e1]; decide), e1, if_pos (by simp)]
theorem la_spec {t : tj_S} {c k b : Nat} (hk : k < c) (hc : c ≤ 8) (h10 : t 0 10 = nI c) (hb : b < 23) (hH : ∀ k, k < c → ∀ i, i < 23 → hs t k i = 0 ∨ hs t k i = 1) (hG : ∀ k, k < c → ∀ i, i < 23 → gn t k i = 0 ∨ gn t k i = 1) (fl : Bool) : f_Mod_later (nI k) (nI b) (flI fl) t = some (if ltr t c fl k b = true then 1 else 0, t) := by
  unfold f_Mod_later ltr
  rw [nm_s, nI_1, la_L hc h10 hb hH hG fl (nI k) _ (c - (k + 1)) (k + 1) 100 (by omega) (by omega)]
  split <;> rfl
