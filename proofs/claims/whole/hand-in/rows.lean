section
theorem pk_us {f : Nat → Int32} {k : Nat} {x : Int32} : upd f k x k = x := if_pos rfl
theorem pk_un {f : Nat → Int32} {k j : Nat} {x : Int32} (h : j ≠ k) : upd f k x j = f j := if_neg h
theorem pk_sub {a b : Nat} (h : b ≤ a) : nI a - nI b = nI (a - b) := by
  obtain ⟨c, rfl⟩ : ∃ c, a = c + b := ⟨a - b, by omega⟩
  rw [← nI_add, Int32.add_sub_cancel, Nat.add_sub_cancel]
theorem pk_m1 (n : Nat) : nI (n + 1) + (-1) = nI n := by
  rw [← nI_1, Int32.add_assoc, show (1 : Int32) + (-1) = 0 from rfl, Int32.add_zero]
theorem pk_mul (a b : Nat) : nI a * nI b = nI (a * b) := (Int32.ofNat_mul a b).symm
theorem pk_ix (x : Int32) {n : Nat} (hn : n < 2 ^ 31) : x < 0 ∨ nI n ≤ x ∨ ∃ j : Nat, j < n ∧ x = nI j := by
  by_cases h : x < 0
  · exact Or.inl h
  · obtain ⟨j, hj, rfl⟩ := nI_of h
    by_cases h2 : j < n
    · exact Or.inr (Or.inr ⟨j, h2, rfl⟩)
    · exact Or.inr (Or.inl (nI_le (by omega) hj))
theorem pk_le {x y : Int32} {A B : Prop} (a b : Nat) (f : a ≤ b → A) (g : b < a → B) (hx : x = nI a := by rfl) (hy : y = nI b := by rfl) (ha : a < 2 ^ 31 := by omega) (hb : b < 2 ^ 31 := by omega) : (x ≤ y → A) ∧ (¬ x ≤ y → B) := by
  subst hx hy
  rw [nI_leI ha hb]
  exact ⟨f, fun z => g (by omega)⟩
theorem pk_lt {x y : Int32} {A B : Prop} (a b : Nat) (f : a < b → A) (g : b ≤ a → B) (hx : x = nI a := by rfl) (hy : y = nI b := by rfl) (ha : a < 2 ^ 31 := by omega) (hb : b < 2 ^ 31 := by omega) : (x < y → A) ∧ (¬ x < y → B) := by
  subst hx hy
  rw [nI_ltI ha hb]
  exact ⟨f, fun z => g (by omega)⟩
theorem pk_eq {x y : Int32} {A B : Prop} (a b : Nat) (f : a = b → A) (g : a ≠ b → B) (hx : x = nI a := by rfl) (hy : y = nI b := by rfl) (ha : a < 2 ^ 31 := by omega) (hb : b < 2 ^ 31 := by omega) : (x = y → A) ∧ (¬ x = y → B) := by
  subst hx hy
  rw [nI_eq ha hb]
  exact ⟨f, g⟩
theorem pk_in {x : Int32} (n N : Nat) (h : n < N) (hx : x = nI n := by rfl) (hN : N < 2 ^ 31 := by omega) : vp_in x N := by
  subst hx
  exact vp_in_nI h hN
theorem pk_cl {x : Int32} (n : Nat) (hx : x = nI n := by rfl) (h : n < 2 ^ 31 := by omega) : x.toNatClampNeg = n := by
  subst hx
  exact nI_clamp h
theorem pk_tn {n : Nat} (h : n < 2 ^ 32) : (nI n).toBitVec.toNat = n := Nat.mod_eq_of_lt h
theorem pk_shl (a s : Int32) (k : Nat) (hs : (s.toBitVec.smod 32).toNat = k) : (a <<< s).toBitVec.toNat = a.toBitVec.toNat * 2 ^ k % 2 ^ 32 := by
  show (a.toBitVec <<< (s.toBitVec.smod 32).toNat).toNat = _
  rw [hs, BitVec.toNat_shiftLeft, Nat.shiftLeft_eq]
theorem pk_shlN {n : Nat} (s : Int32) (k : Nat) (hs : (s.toBitVec.smod 32).toNat = k) (h : n * 2 ^ k < 2 ^ 32) : nI n <<< s = nI (n * 2 ^ k) := by
  apply Int32.toBitVec_inj.mp
  apply BitVec.eq_of_toNat_eq
  have hn : n < 2 ^ 32 := Nat.lt_of_le_of_lt (Nat.le_mul_of_pos_right n (Nat.two_pow_pos k)) h
  rw [pk_shl _ _ k hs, pk_tn hn, pk_tn h, Nat.mod_eq_of_lt h]
theorem s_l : ∀ n, n < 32 → ((nI n &&& 31).toBitVec.smod 32).toNat = n := by decide +kernel
/-! pure things: flags as Int32, counts, folds, first and last, marks; the invariants' pieces -/
def rt_b (b : Bool) : Int32 := cond b 1 0
theorem rt_br {A B : Prop} (b : Bool) (f : b = false → A) (g : b = true → B) : (rt_b b = 0 → A) ∧ (¬ rt_b b = 0 → B) := by
  cases b
  · exact br_t rfl (f rfl)
  · exact br_f (by decide) (g rfl)
theorem rt_b0 {b : Bool} (h : rt_b b = 0) : b = false := by
  cases b
  · rfl
  · exact absurd h (by decide)
theorem rt_b1 {b : Bool} (h : ¬ rt_b b = 0) : b = true := by
  cases b
  · exact absurd rfl h
  · rfl
/-- the greater of two, as Java's x > y ? x : y -/
def rt_mx (x y : Int32) : Int32 := if x ≤ y then y else x
theorem rt_mx_l {x y : Int32} (h : x ≤ y) : rt_mx x y = y := if_pos h
theorem rt_mx_n {x y : Int32} (h : ¬ x ≤ y) : rt_mx x y = x := if_neg h
theorem rt_mx_g {x y : Int32} (h : y ≤ x) : rt_mx x y = x := by
  unfold rt_mx
  by_cases h2 : x ≤ y
  · rw [if_pos h2]; exact Int32.le_antisymm h h2
  · rw [if_neg h2]
theorem rt_nle {x y : Int32} (h : ¬ x ≤ y) : y ≤ x := Int32.le_of_lt (Int32.not_le.mp h)
theorem rt_nlt {x y : Int32} (h : ¬ x < y) : y ≤ x := Int32.not_lt.mp h
def rt_cl (x lo hi : Int32) : Int32 := if x < lo then lo else if hi < x then hi else x
theorem rt_cl_a {x lo hi : Int32} (h : x < lo) : rt_cl x lo hi = lo := if_pos h
theorem rt_cl_b {x lo hi : Int32} (h : ¬ x < lo) (h2 : hi < x) : rt_cl x lo hi = hi := by
  unfold rt_cl; rw [if_neg h, if_pos h2]
theorem rt_cl_c {x lo hi : Int32} (h : ¬ x < lo) (h2 : ¬ hi < x) : rt_cl x lo hi = x := by
  unfold rt_cl; rw [if_neg h, if_neg h2]
theorem rt_cl_nat (x : Int32) : ∃ n : Nat, n ≤ 4000 ∧ rt_cl x 4 4000 = nI n := by
  by_cases h : x < 4
  · exact ⟨4, by omega, by rw [rt_cl_a h]; decide⟩
  · by_cases h2 : 4000 < x
    · exact ⟨4000, by omega, by rw [rt_cl_b h h2]; decide⟩
    · have h0 : ¬ x < 0 := fun z => h (Int32.lt_trans z (by decide))
      obtain ⟨j, hj, e⟩ := nI_of2 (x := x) (M := 4000) (n := 4000) (by decide) h0 (rt_nlt h2)
      exact ⟨j, hj, by rw [rt_cl_c h h2]; exact e⟩
/-- how many below n -/
def rt_cn (c : Nat → Bool) : Nat → Nat
  | 0 => 0
  | n + 1 => rt_cn c n + (c n).toNat
theorem rt_cn_le (c : Nat → Bool) : ∀ n, rt_cn c n ≤ n := by
  intro n
  induction n with
  | zero => exact Nat.le_refl 0
  | succ n ih =>
    show rt_cn c n + (c n).toNat ≤ n + 1
    have := Bool.toNat_le (c n)
    omega
theorem rt_cn_hi (c : Nat → Bool) {n : Nat} (hz : ∀ s, n ≤ s → c s = false) : ∀ d, rt_cn c (n + d) = rt_cn c n := by
  intro d
  induction d with
  | zero => rfl
  | succ d ih =>
    show rt_cn c (n + d) + (c (n + d)).toNat = _
    rw [hz (n + d) (by omega), ih]; rfl
theorem rt_cn_all (c : Nat → Bool) : ∀ n, rt_cn c n = n ↔ ∀ s, s < n → c s = true := by
  intro n
  induction n with
  | zero => exact ⟨fun _ s hs => absurd hs (Nat.not_lt_zero s), fun _ => rfl⟩
  | succ n ih =>
    have h1 := rt_cn_le c n
    have e : rt_cn c (n + 1) = rt_cn c n + (c n).toNat := rfl
    constructor
    · intro h
      cases hc : c n with
      | false => rw [e, hc] at h; simp at h; omega
      | true =>
        rw [e, hc] at h
        have h2 : rt_cn c n = n := by simp at h; omega
        intro s hs
        rcases Nat.lt_or_ge s n with h3 | h3
        · exact ih.mp h2 s h3
        · have h4 : s = n := by omega
          rw [h4]; exact hc
    · intro h
      rw [e, ih.mpr (fun s hs => h s (by omega)), h n (by omega)]; rfl
theorem rt_cn_cg {c c' : Nat → Bool} : ∀ n, (∀ s, s < n → c s = c' s) → rt_cn c n = rt_cn c' n := by
  intro n
  induction n with
  | zero => intro _; rfl
  | succ n ih =>
    intro h
    show rt_cn c n + (c n).toNat = rt_cn c' n + (c' n).toNat
    rw [ih (fun s hs => h s (by omega)), h n (by omega)]
/-- one more is counted -/
theorem rt_cn_up {c c' : Nat → Bool} {k : Nat} (hk : c k = false) (hk' : c' k = true) (ho : ∀ s, s ≠ k → c' s = c s) : ∀ n, k < n → rt_cn c' n = rt_cn c n + 1 := by
  intro n
  induction n with
  | zero => intro h; exact absurd h (Nat.not_lt_zero k)
  | succ n ih =>
    intro h
    show rt_cn c' n + (c' n).toNat = rt_cn c n + (c n).toNat + 1
    rcases Nat.lt_or_ge k n with h3 | h3
    · rw [ih h3, ho n (by omega)]; omega
    · have h4 : n = k := by omega
      subst h4
      rw [hk, hk', rt_cn_cg (c := c') (c' := c) n (fun s hs => ho s (by omega))]; rfl
/-- the least of d over those with c, and whether there was one -/
def rt_fo (c : Nat → Bool) (d : Nat → Int32) : Nat → Bool × Int32
  | 0 => (false, 0)
  | n + 1 => cond (c n) (true, if (rt_fo c d n).1 = false ∨ d n < (rt_fo c d n).2 then d n else (rt_fo c d n).2) (rt_fo c d n)
theorem rt_fo_f {c : Nat → Bool} {d : Nat → Int32} {n : Nat} (h : c n = false) : rt_fo c d (n + 1) = rt_fo c d n := by
  show cond (c n) _ _ = _
  rw [h]; rfl
theorem rt_fo_t {c : Nat → Bool} {d : Nat → Int32} {n : Nat} (h : c n = true) : rt_fo c d (n + 1) = (true, if (rt_fo c d n).1 = false ∨ d n < (rt_fo c d n).2 then d n else (rt_fo c d n).2) := by
  show cond (c n) _ _ = _
  rw [h]; rfl
theorem rt_fo_hi {c : Nat → Bool} {d : Nat → Int32} {n : Nat} (hz : ∀ s, n ≤ s → c s = false) : ∀ k, rt_fo c d (n + k) = rt_fo c d n := by
  intro k
  induction k with
  | zero => rfl
  | succ k ih =>
    show rt_fo c d ((n + k) + 1) = _
    rw [rt_fo_f (hz (n + k) (by omega)), ih]
theorem rt_fo_0 {c : Nat → Bool} {d : Nat → Int32} : ∀ n, (rt_fo c d n).1 = false → ∀ s, s < n → c s = false := by
  intro n
  induction n with
  | zero => intro _ s hs; exact absurd hs (Nat.not_lt_zero s)
  | succ n ih =>
    intro h s hs
    cases hc : c n with
    | true => rw [rt_fo_t hc] at h; exact absurd (show true = false from h) (by decide)
    | false =>
      rw [rt_fo_f hc] at h
      rcases Nat.lt_or_ge s n with h3 | h3
      · exact ih h s h3
      · have h4 : s = n := by omega
        rw [h4]; exact hc
theorem rt_fo_n {c : Nat → Bool} {d : Nat → Int32} : ∀ n, (∀ s, s < n → c s = false) → rt_fo c d n = (false, 0) := by
  intro n
  induction n with
  | zero => intro _; rfl
  | succ n ih =>
    intro h
    rw [rt_fo_f (h n (by omega))]
    exact ih (fun s hs => h s (by omega))
theorem rt_fo_1 {c : Nat → Bool} {d : Nat → Int32} {n s : Nat} (hs : s < n) (h : c s = true) : (rt_fo c d n).1 = true := by
  cases e : (rt_fo c d n).1 with
  | true => rfl
  | false => rw [rt_fo_0 n e s hs] at h; exact absurd h (by decide)
theorem rt_fo_cg {c c' : Nat → Bool} {d d' : Nat → Int32} : ∀ n, (∀ s, s < n → c s = c' s) → (∀ s, s < n → d s = d' s) → rt_fo c d n = rt_fo c' d' n := by
  intro n
  induction n with
  | zero => intro _ _; rfl
  | succ n ih =>
    intro h g
    show cond (c n) _ _ = cond (c' n) _ _
    rw [ih (fun s hs => h s (by omega)) (fun s hs => g s (by omega)), h n (by omega), g n (by omega)]
/-- the last below n with c, or -1 -/
def rt_gl (c : Nat → Bool) : Nat → Int32
  | 0 => -1
  | n + 1 => cond (c n) (nI n) (rt_gl c n)
theorem rt_gl_f {c : Nat → Bool} {n : Nat} (h : c n = false) : rt_gl c (n + 1) = rt_gl c n := by
  show cond (c n) _ _ = _
  rw [h]; rfl
theorem rt_gl_t {c : Nat → Bool} {n : Nat} (h : c n = true) : rt_gl c (n + 1) = nI n := by
  show cond (c n) _ _ = _
  rw [h]; rfl
theorem rt_gl_hi {c : Nat → Bool} {n : Nat} (hz : ∀ s, n ≤ s → c s = false) : ∀ k, rt_gl c (n + k) = rt_gl c n := by
  intro k
  induction k with
  | zero => rfl
  | succ k ih =>
    show rt_gl c ((n + k) + 1) = _
    rw [rt_gl_f (hz (n + k) (by omega)), ih]
theorem rt_gl_or (c : Nat → Bool) : ∀ n, rt_gl c n = -1 ∨ ∃ j, j < n ∧ c j = true ∧ rt_gl c n = nI j := by
  intro n
  induction n with
  | zero => exact Or.inl rfl
  | succ n ih =>
    cases hc : c n with
    | true => exact Or.inr ⟨n, by omega, hc, rt_gl_t hc⟩
    | false =>
      rw [rt_gl_f hc]
      rcases ih with h | ⟨j, hj, h1, h2⟩
      · exact Or.inl h
      · exact Or.inr ⟨j, by omega, h1, h2⟩
/-- none below n, or a first one -/
theorem rt_first (c : Nat → Bool) : ∀ n, (∀ s, s < n → c s = false) ∨ ∃ j, j < n ∧ c j = true ∧ ∀ s, s < j → c s = false := by
  intro n
  induction n with
  | zero => exact Or.inl (fun s hs => absurd hs (Nat.not_lt_zero s))
  | succ n ih =>
    rcases ih with h | ⟨j, hj, h1, h2⟩
    · cases hc : c n with
      | true => exact Or.inr ⟨n, by omega, hc, h⟩
      | false =>
        refine Or.inl (fun s hs => ?_)
        rcases Nat.lt_or_ge s n with h3 | h3
        · exact h s h3
        · have h4 : s = n := by omega
          rw [h4]; exact hc
    · exact Or.inr ⟨j, by omega, h1, h2⟩
/-- zero written below n -/
def rt_zr (a : Nat → Int32) : Nat → Nat → Int32
  | 0 => a
  | n + 1 => upd (rt_zr a n) n 0
theorem rt_zr_v (a : Nat → Int32) : ∀ n s, rt_zr a n s = if s < n then 0 else a s := by
  intro n
  induction n with
  | zero => intro s; rw [if_neg (Nat.not_lt_zero s)]; rfl
  | succ n ih =>
    intro s
    show upd (rt_zr a n) n 0 s = _
    by_cases h : s = n
    · subst h; rw [pk_us, if_pos (by omega)]
    · rw [pk_un h, ih s]
      by_cases h2 : s < n
      · rw [if_pos h2, if_pos (by omega)]
      · rw [if_neg h2, if_neg (by omega)]
/-- one written below n where c -/
def rt_mk (c : Nat → Bool) (a : Nat → Int32) : Nat → Nat → Int32
  | 0 => a
  | n + 1 => cond (c n) (upd (rt_mk c a n) n 1) (rt_mk c a n)
theorem rt_mk_f {c : Nat → Bool} {a : Nat → Int32} {n : Nat} (h : c n = false) : rt_mk c a (n + 1) = rt_mk c a n := by
  show cond (c n) _ _ = _
  rw [h]; rfl
theorem rt_mk_t {c : Nat → Bool} {a : Nat → Int32} {n : Nat} (h : c n = true) : rt_mk c a (n + 1) = upd (rt_mk c a n) n 1 := by
  show cond (c n) _ _ = _
  rw [h]; rfl
theorem rt_mk_hi {c : Nat → Bool} {a : Nat → Int32} {n : Nat} (hz : ∀ s, n ≤ s → c s = false) : ∀ k, rt_mk c a (n + k) = rt_mk c a n := by
  intro k
  induction k with
  | zero => rfl
  | succ k ih =>
    show rt_mk c a ((n + k) + 1) = _
    rw [rt_mk_f (hz (n + k) (by omega)), ih]
theorem rt_mk_ge {c : Nat → Bool} {a : Nat → Int32} : ∀ n s, n ≤ s → rt_mk c a n s = a s := by
  intro n
  induction n with
  | zero => intro s _; rfl
  | succ n ih =>
    intro s hs
    cases hc : c n with
    | true => rw [rt_mk_t hc, pk_un (by omega)]; exact ih s (by omega)
    | false => rw [rt_mk_f hc]; exact ih s (by omega)
theorem rt_mk_0 {c : Nat → Bool} {a : Nat → Int32} : ∀ n s, c s = false → rt_mk c a n s = a s := by
  intro n
  induction n with
  | zero => intro s _; rfl
  | succ n ih =>
    intro s hs
    cases hc : c n with
    | true => rw [rt_mk_t hc, pk_un (fun z => by rw [z, hc] at hs; exact absurd hs (by decide))]; exact ih s hs
    | false => rw [rt_mk_f hc]; exact ih s hs
/-- the array of the answers of c below n -/
def rt_st (c : Nat → Bool) (a : Nat → Int32) : Nat → Nat → Int32
  | 0 => a
  | n + 1 => upd (rt_st c a n) n (rt_b (c n))
theorem rt_st_v {c : Nat → Bool} {a : Nat → Int32} : ∀ n s, s < n → rt_st c a n s = rt_b (c s) := by
  intro n
  induction n with
  | zero => intro s hs; exact absurd hs (Nat.not_lt_zero s)
  | succ n ih =>
    intro s hs
    show upd (rt_st c a n) n (rt_b (c n)) s = _
    by_cases h : s = n
    · subst h; exact pk_us
    · rw [pk_un h]; exact ih s (by omega)
/-! what a segment is: out, and a candidate -/
def rt_ou (sd dl : Nat → Int32) (s : Nat) : Bool := decide (0 < sd s) && decide (dl s = 0)
theorem rt_ou_t {sd dl : Nat → Int32} {s : Nat} (h : 0 < sd s) (g : dl s = 0) : rt_ou sd dl s = true := by
  unfold rt_ou; rw [decide_eq_true h, decide_eq_true g]; rfl
theorem rt_ou_a {sd dl : Nat → Int32} {s : Nat} (h : ¬ 0 < sd s) : rt_ou sd dl s = false := by
  unfold rt_ou; rw [decide_eq_false h]; rfl
theorem rt_ou_b {sd dl : Nat → Int32} {s : Nat} (h : ¬ dl s = 0) : rt_ou sd dl s = false := by
  unfold rt_ou; rw [decide_eq_false h, Bool.and_false]
def rt_ca (sd dl lo la : Nat → Int32) (rx : Int32) (s : Nat) : Bool := rt_ou sd dl s && (decide (lo s = 0) && decide (la s < rx))
theorem rt_ca_t {sd dl lo la : Nat → Int32} {rx : Int32} {s : Nat} (h : rt_ou sd dl s = true) (g : lo s = 0) (k : la s < rx) : rt_ca sd dl lo la rx s = true := by
  unfold rt_ca; rw [h, decide_eq_true g, decide_eq_true k]; rfl
theorem rt_ca_a {sd dl lo la : Nat → Int32} {rx : Int32} {s : Nat} (h : rt_ou sd dl s = false) : rt_ca sd dl lo la rx s = false := by
  unfold rt_ca; rw [h]; rfl
theorem rt_ca_b {sd dl lo la : Nat → Int32} {rx : Int32} {s : Nat} (h : ¬ lo s = 0) : rt_ca sd dl lo la rx s = false := by
  unfold rt_ca; rw [decide_eq_false h, Bool.false_and, Bool.and_false]
theorem rt_ca_c {sd dl lo la : Nat → Int32} {rx : Int32} {s : Nat} (h : ¬ la s < rx) : rt_ca sd dl lo la rx s = false := by
  unfold rt_ca; rw [decide_eq_false h, Bool.and_false, Bool.and_false]
/-- out and not lost -/
def rt_fl (sd dl lo : Nat → Int32) (s : Nat) : Bool := rt_ou sd dl s && decide (lo s = 0)
theorem rt_fl_t {sd dl lo : Nat → Int32} {s : Nat} (h : rt_ou sd dl s = true) (g : lo s = 0) : rt_fl sd dl lo s = true := by
  unfold rt_fl; rw [h, decide_eq_true g]; rfl
theorem rt_fl_a {sd dl lo : Nat → Int32} {s : Nat} (h : rt_ou sd dl s = false) : rt_fl sd dl lo s = false := by
  unfold rt_fl; rw [h]; rfl
theorem rt_fl_b {sd dl lo : Nat → Int32} {s : Nat} (h : ¬ lo s = 0) : rt_fl sd dl lo s = false := by
  unfold rt_fl; rw [decide_eq_false h, Bool.and_false]
/-! the invariants' pieces -/
def rt_IN (nx wr tc rp sh rm : Nat) : Prop := nx ≤ wr ∧ wr ≤ 64 ∧ tc ≤ 256 ∧ rp ≤ 64 ∧ sh ≤ 6 ∧ rm ≤ 8
def rt_IS (nx tc : Nat) (sd : Nat → Int32) : Prop := (∀ s, s < nx → ∃ j, 0 < j ∧ j ≤ tc ∧ sd s = nI j) ∧ (∀ s, nx ≤ s → sd s = 0)
def rt_IZ (nx : Nat) (a : Nat → Int32) : Prop := ∀ s, nx ≤ s → a s = 0
def rt_IL (la : Nat → Int32) : Prop := ∀ s, ∃ j, j < 256 ∧ la s = nI j
def rt_IT (nx tc : Nat) (ts : Nat → Int32) : Prop := ∀ t, t < tc → ∃ j, j < nx ∧ ts t = nI j
def rt_IK (rx ry hr : Int32) : Prop := (hr = 0 ∧ rx = -1) ∨ (¬ hr = 0 ∧ rx = ry)
def rt_fv (a r p : Bool) : Int32 := cond a 256 0 + (cond r 512 0 + cond p 1024 0)
def rt_F1 (f a r p : Int32) : Prop := ∃ x y z : Bool, a = rt_b x ∧ r = rt_b y ∧ p = rt_b z ∧ f = rt_fv x y z
def rt_IF (tc : Nat) (f a r p : Nat → Int32) : Prop := ∀ t, t < tc → rt_F1 (f t) (a t) (r t) (p t)
def rt_IB (re rb bs : Nat → Int32) : Prop := ∀ s, ¬ re s = 0 → rb s = bs s
def rt_nz (a : Nat → Int32) (s : Nat) : Bool := decide (¬ a s = 0)
def rt_IC (dl : Nat → Int32) (dc : Int32) : Prop := dc = nI (rt_cn (rt_nz dl) 64)
theorem rt_fv_a : ∀ x y z : Bool, (rt_fv x y z &&& 256 = 0 ↔ x = false) ∧ rt_fv x y z ||| 256 = rt_fv true y z ∧ rt_fv x y z ||| 1024 = rt_fv x y true := by decide
theorem rt_fv_0 : ∀ y : Bool, cond y 512 0 = rt_fv false y false := by decide
theorem rt_nz_t {a : Nat → Int32} {s : Nat} (h : ¬ a s = 0) : rt_nz a s = true := decide_eq_true h
theorem rt_nz_f {a : Nat → Int32} {s : Nat} (h : a s = 0) : rt_nz a s = false := decide_eq_false (fun z => z h)
theorem rt_nz_1 {a : Nat → Int32} {s : Nat} (h : rt_nz a s = true) : ¬ a s = 0 := of_decide_eq_true h
theorem rt_nz_0 {a : Nat → Int32} {s : Nat} (h : rt_nz a s = false) : a s = 0 := Decidable.not_not.mp (of_decide_eq_false h)
theorem rt_IS_ou {nx tc : Nat} {sd : Nat → Int32} (h : rt_IS nx tc sd) (dl : Nat → Int32) : ∀ s, nx ≤ s → rt_ou sd dl s = false := fun s hs => rt_ou_a (by rw [h.2 s hs]; decide)
theorem rt_IS_ca {nx tc : Nat} {sd : Nat → Int32} (h : rt_IS nx tc sd) (dl lo la : Nat → Int32) (rx : Int32) : ∀ s, nx ≤ s → rt_ca sd dl lo la rx s = false := fun s hs => rt_ca_a (rt_IS_ou h dl s hs)
theorem rt_IS_fl {nx tc : Nat} {sd : Nat → Int32} (h : rt_IS nx tc sd) (dl lo : Nat → Int32) : ∀ s, nx ≤ s → rt_fl sd dl lo s = false := fun s hs => rt_fl_a (rt_IS_ou h dl s hs)
theorem rt_IS_pos {nx tc : Nat} {sd : Nat → Int32} (h : rt_IS nx tc sd) (ht : tc ≤ 256) {s : Nat} (hs : s < nx) : 0 < sd s := by
  obtain ⟨j, h0, h1, e⟩ := h.1 s hs
  rw [e, ← nI_0]; exact nI_lt h0 (by omega)
theorem rt_IZ_m {nx m : Nat} {a : Nat → Int32} (h : rt_IZ nx a) (hm : nx ≤ m) : rt_IZ m a := fun s hs => h s (by omega)
theorem rt_IZ_u {nx k : Nat} {a : Nat → Int32} (h : rt_IZ nx a) (hk : k < nx) (x : Int32) : rt_IZ nx (upd a k x) := fun s hs => by rw [pk_un (by omega)]; exact h s hs
theorem rt_IZ_0 {nx : Nat} {a : Nat → Int32} (h : rt_IZ nx a) (k : Nat) : rt_IZ nx (upd a k 0) := fun s hs => by
  by_cases z : s = k
  · subst z; exact pk_us
  · rw [pk_un z]; exact h s hs
theorem rt_IZ_mk {nx : Nat} {a : Nat → Int32} {c : Nat → Bool} (h : rt_IZ nx a) (hc : ∀ s, nx ≤ s → c s = false) (n : Nat) : rt_IZ nx (rt_mk c a n) := fun s hs => by
  rw [rt_mk_0 n s (hc s hs)]; exact h s hs
theorem rt_IZ_zr {nx : Nat} {a : Nat → Int32} (h : rt_IZ nx a) (n : Nat) : rt_IZ nx (rt_zr a n) := fun s hs => by
  rw [rt_zr_v]
  by_cases z : s < n
  · rw [if_pos z]
  · rw [if_neg z]; exact h s hs
theorem rt_IL_u {la : Nat → Int32} (h : rt_IL la) (k : Nat) {t : Nat} (ht : t < 256) : rt_IL (upd la k (nI t)) := fun s => by
  by_cases z : s = k
  · subst z; exact ⟨t, ht, pk_us⟩
  · rw [pk_un z]; exact h s
theorem rt_IT_m {nx m tc : Nat} {ts : Nat → Int32} (h : rt_IT nx tc ts) (hm : nx ≤ m) : rt_IT m tc ts := fun t ht => by
  obtain ⟨j, hj, e⟩ := h t ht
  exact ⟨j, by omega, e⟩
theorem rt_IT_u {nx tc k : Nat} {ts : Nat → Int32} (h : rt_IT nx tc ts) (hk : k < nx) : rt_IT nx (tc + 1) (upd ts tc (nI k)) := fun t ht => by
  by_cases z : t = tc
  · subst z; exact ⟨k, hk, pk_us⟩
  · rw [pk_un z]; exact h t (by omega)
theorem rt_IS_t {nx tc : Nat} {sd : Nat → Int32} (h : rt_IS nx tc sd) : rt_IS nx (tc + 1) sd := ⟨fun s hs => by
  obtain ⟨j, h0, h1, e⟩ := h.1 s hs
  exact ⟨j, h0, by omega, e⟩, h.2⟩
/-- sent once more -/
theorem rt_IS_a {nx tc k : Nat} {sd : Nat → Int32} (h : rt_IS nx tc sd) (hk : k < nx) : rt_IS nx (tc + 1) (upd sd k (sd k + 1)) := ⟨fun s hs => by
  by_cases z : s = k
  · subst z
    obtain ⟨j, h0, h1, e⟩ := h.1 s hs
    exact ⟨j + 1, by omega, by omega, by rw [pk_us, e, nI_1]⟩
  · rw [pk_un z]
    obtain ⟨j, h0, h1, e⟩ := h.1 s hs
    exact ⟨j, h0, by omega, e⟩, fun s hs => by rw [pk_un (by omega)]; exact h.2 s hs⟩
/-- sent first -/
theorem rt_IS_n {nx tc : Nat} {sd : Nat → Int32} (h : rt_IS nx tc sd) : rt_IS (nx + 1) (tc + 1) (upd sd nx (sd nx + 1)) := ⟨fun s hs => by
  by_cases z : s = nx
  · subst z
    exact ⟨1, by omega, by omega, by rw [pk_us, h.2 s (Nat.le_refl s)]; decide⟩
  · rw [pk_un z]
    obtain ⟨j, h0, h1, e⟩ := h.1 s (by omega)
    exact ⟨j, h0, by omega, e⟩, fun s hs => by rw [pk_un (by omega)]; exact h.2 s (by omega)⟩
theorem rt_IF_n {tc : Nat} {f a r p : Nat → Int32} (h : rt_IF tc f a r p) {x y z w : Int32} (g : rt_F1 x y z w) : rt_IF (tc + 1) (upd f tc x) (upd a tc y) (upd r tc z) (upd p tc w) := fun t ht => by
  by_cases e : t = tc
  · subst e; rw [pk_us, pk_us, pk_us, pk_us]; exact g
  · rw [pk_un e, pk_un e, pk_un e, pk_un e]; exact h t (by omega)
/-- arrived -/
theorem rt_IF_a {tc k : Nat} {f a r p : Nat → Int32} (h : rt_IF tc f a r p) (hk : k < tc) : rt_IF tc (upd f k (f k ||| 256)) (upd a k 1) r p := fun t ht => by
  by_cases e : t = k
  · subst e
    obtain ⟨x, y, z, h1, h2, h3, h4⟩ := h t ht
    rw [pk_us, pk_us]
    exact ⟨true, y, z, rfl, h2, h3, by rw [h4]; exact (rt_fv_a x y z).2.1⟩
  · rw [pk_un e, pk_un e]; exact h t ht
/-- a probe -/
theorem rt_IF_p {tc k : Nat} {f a r p : Nat → Int32} (h : rt_IF tc f a r p) (hk : k < tc) : rt_IF tc (upd f k (f k ||| 1024)) a r (upd p k 1) := fun t ht => by
  by_cases e : t = k
  · subst e
    obtain ⟨x, y, z, h1, h2, h3, h4⟩ := h t ht
    rw [pk_us, pk_us]
    exact ⟨x, y, true, h1, h2, rfl, by rw [h4]; exact (rt_fv_a x y z).2.2⟩
  · rw [pk_un e, pk_un e]; exact h t ht
theorem rt_IF_arr {tc k : Nat} {f a r p : Nat → Int32} (h : rt_IF tc f a r p) (hk : k < tc) : (f k &&& 256 = 0) ↔ a k = 0 := by
  obtain ⟨x, y, z, h1, h2, h3, h4⟩ := h k hk
  rw [h4, (rt_fv_a x y z).1, h1]
  constructor
  · intro e; rw [e]; rfl
  · exact rt_b0
theorem rt_IK_ca {rx ry hr : Int32} (h : rt_IK rx ry hr) {la : Nat → Int32} (hl : rt_IL la) (s : Nat) : la s < rx ↔ ¬ hr = 0 ∧ la s < ry := by
  rcases h with ⟨h1, h2⟩ | ⟨h1, h2⟩
  · constructor
    · intro z
      obtain ⟨j, hj, e⟩ := hl s
      rw [h2, e] at z
      exact absurd (Int32.lt_trans z (by decide)) (nI_pos (by omega))
    · intro z; exact absurd h1 z.1
  · rw [h2]; exact ⟨fun z => ⟨h1, z⟩, fun z => z.2⟩
theorem rt_IK_gt {rx ry hr : Int32} (h : rt_IK rx ry hr) {la : Nat → Int32} (hl : rt_IL la) (s : Nat) : rx < la s ↔ hr = 0 ∨ ry < la s := by
  rcases h with ⟨h1, h2⟩ | ⟨h1, h2⟩
  · constructor
    · intro _; exact Or.inl h1
    · intro _
      obtain ⟨j, hj, e⟩ := hl s
      rw [h2, e]
      exact Int32.lt_of_lt_of_le (by decide) (nI_pos' (n := j) (by omega))
  · rw [h2]; exact ⟨fun z => Or.inr z, fun z => z.elim (fun y => absurd y h1) id⟩
theorem rt_cn_f {c : Nat → Bool} {n : Nat} (h : c n = false) : rt_cn c (n + 1) = rt_cn c n := by
  show rt_cn c n + (c n).toNat = _
  rw [h]; rfl
theorem rt_cn_t {c : Nat → Bool} {n : Nat} (h : c n = true) : rt_cn c (n + 1) = rt_cn c n + 1 := by
  show rt_cn c n + (c n).toNat = _
  rw [h]; rfl
theorem rt_fo_a {c : Nat → Bool} {d : Nat → Int32} {n : Nat} (h : c n = true) (g : (rt_fo c d n).1 = false) : rt_fo c d (n + 1) = (true, d n) := by
  rw [rt_fo_t h, if_pos (Or.inl g)]
theorem rt_fo_b {c : Nat → Bool} {d : Nat → Int32} {n : Nat} (h : c n = true) (g : (rt_fo c d n).1 = true) (k : (rt_fo c d n).2 ≤ d n) : rt_fo c d (n + 1) = (true, (rt_fo c d n).2) := by
  rw [rt_fo_t h, if_neg (fun z => z.elim (fun y => by rw [g] at y; exact absurd y (by decide)) (fun y => Int32.not_lt.mpr k y))]
theorem rt_fo_c {c : Nat → Bool} {d : Nat → Int32} {n : Nat} (h : c n = true) (k : ¬ (rt_fo c d n).2 ≤ d n) : rt_fo c d (n + 1) = (true, d n) := by
  rw [rt_fo_t h, if_pos (Or.inr (Int32.not_le.mp k))]
theorem rt_IL_in {la : Nat → Int32} (h : rt_IL la) (s : Nat) : vp_in (la s) 256 := by
  obtain ⟨j, hj, e⟩ := h s
  rw [e]; exact vp_in_nI hj (by decide)
/-! branches on what an array holds at nI s -/
theorem rt_bz {a : Nat → Int32} {s : Nat} {A B : Prop} (hs : s < 64) (f : a s = 0 → A) (g : ¬ a s = 0 → B) : (a (nI s).toNatClampNeg = 0 → A) ∧ (¬ a (nI s).toNatClampNeg = 0 → B) := by
  rw [nI_clamp (by omega)]; exact ⟨f, g⟩
theorem rt_in {s : Nat} (hs : s < 64) : vp_in (nI s) 64 := vp_in_nI hs (by decide)
theorem rt_i2 {s : Nat} (hs : s < 256) : vp_in (nI s) 256 := vp_in_nI hs (by decide)
theorem rt_cp {s : Nat} (hs : s < 256) : (nI s).toNatClampNeg = s := nI_clamp (by omega)
theorem rt_at {a : Nat → Int32} {s : Nat} (hs : s < 256) : a (nI s).toNatClampNeg = a s := by rw [nI_clamp (by omega)]
theorem rt_ua {a : Nat → Int32} {s : Nat} {x : Int32} (hs : s < 256) : upd a (nI s).toNatClampNeg x = upd a s x := by rw [nI_clamp (by omega)]
theorem rt_n0 : vp_nar .boolean 0 = 0 := by decide
theorem rt_n1 : vp_nar .boolean 1 = 1 := by decide
theorem rt_64 : ∀ s : Nat, s < 64 → ¬ (64 : Int32) ≤ nI s := fun s hs => nI_ge (b := 64) hs (by decide)
theorem rt_64e : (64 : Int32) ≤ nI 64 := by decide
/-! values that both sides reckon -/
def rt_rw (ms sr mr : Int32) (rm : Nat) : Int32 := if ms = 0 then 0 else if sr ≤ (nI rm * mr) / 4 then sr else (nI rm * mr) / 4
theorem rt_rw_0 {ms sr mr : Int32} {rm : Nat} (h : ms = 0) : rt_rw ms sr mr rm = 0 := if_pos h
theorem rt_rw_1 {ms sr mr : Int32} {rm : Nat} (h : ¬ ms = 0) (g : sr ≤ (nI rm * mr) / 4) : rt_rw ms sr mr rm = sr := by
  unfold rt_rw; rw [if_neg h, if_pos g]
theorem rt_rw_2 {ms sr mr : Int32} {rm : Nat} (h : ¬ ms = 0) (g : ¬ sr ≤ (nI rm * mr) / 4) : rt_rw ms sr mr rm = (nI rm * mr) / 4 := by
  unfold rt_rw; rw [if_neg h, if_neg g]
def rt_bb (ir ms sr rv : Int32) : Int32 := if ms = 0 then ir else sr + rt_mx 1 (4 * rv)
def rt_ro (ir ms sr rv : Int32) (sh : Nat) : Int32 := rt_cl (rt_bb ir ms sr rv) 4 4000 <<< (nI sh &&& 31)
theorem rt_bb_0 {ir ms sr rv : Int32} (h : ms = 0) : rt_bb ir ms sr rv = ir := if_pos h
theorem rt_bb_1 {ir ms sr rv : Int32} (h : ¬ ms = 0) : rt_bb ir ms sr rv = sr + rt_mx 1 (4 * rv) := if_neg h
end
section
/-! the component: what it only reads -/
section
variable {ir nw cw ss ct sa ms sr rv mr rx rr am tp pc ps ur rt ds un tl ro lm : Int32} {wr nx tc rm sh rp : Nat} {bs re sd la dl lo ep ts fl ta : Nat → Int32} {post : Int32 → Prop} {s : Nat}
theorem xa_out (hs : s < 64) (h : post (rt_b (rt_ou sd dl s))) : wpX_isOutstanding post (ir, nw, cw, ss, ct, sa, nI wr, nI nx, nI tc, ms, sr, rv, mr, rx, rr, nI rm, nI sh, am, tp, pc, ps, ur, nI rp, rt, ds, un, tl, ro, lm, bs, re, sd, la, dl, lo, ep, ts, fl, ta) (nI s) := by
  unfold wpX_isOutstanding
  rw [nI_clamp (by omega : s < 2 ^ 31)]
  refine ⟨rt_in hs, br_c (fun z => ?_) (fun z => ⟨rt_in hs, br_c (fun y => ?_) (fun y => ?_)⟩)⟩
  · rw [rt_ou_a (Int32.not_lt.mpr z)] at h; exact h
  · rw [rt_ou_t (Int32.not_le.mp z) y] at h; exact h
  · rw [rt_ou_b y] at h; exact h
theorem xa_can (hs : s < 64) (h : post (rt_b (rt_ca sd dl lo la rx s))) : wpX_isCandidate post (ir, nw, cw, ss, ct, sa, nI wr, nI nx, nI tc, ms, sr, rv, mr, rx, rr, nI rm, nI sh, am, tp, pc, ps, ur, nI rp, rt, ds, un, tl, ro, lm, bs, re, sd, la, dl, lo, ep, ts, fl, ta) (nI s) := by
  unfold wpX_isCandidate
  rw [nI_clamp (by omega : s < 2 ^ 31)]
  refine xa_out hs (rt_br _ (fun e => ?_) (fun e => ⟨rt_in hs, br_c (fun y => ⟨rt_in hs, br_c (fun w => ?_) (fun w => ?_)⟩) (fun y => ?_)⟩))
  · rw [rt_ca_a e] at h; exact h
  · rw [rt_ca_c (Int32.not_lt.mpr w)] at h; exact h
  · rw [rt_ca_t e y (Int32.not_le.mp w)] at h; exact h
  · rw [rt_ca_b y] at h; exact h
theorem xa_infl_l (hx : nx ≤ 64) (hp : post (nI (rt_cn (rt_fl sd dl lo) nx))) : ∀ d s n, s + d = nx → d < n → wX_inflight_4 post ir nw cw ss ct sa (nI wr) (nI nx) (nI tc) ms sr rv mr rx rr (nI rm) (nI sh) am tp pc ps ur (nI rp) rt ds un tl ro lm bs re sd la dl lo ep ts fl ta n (nI (rt_cn (rt_fl sd dl lo) s)) (nI s) := by
  intro d
  induction d with
  | zero =>
    intro s n h hn
    obtain ⟨m, rfl⟩ : ∃ m, n = m + 1 := ⟨n - 1, by omega⟩
    obtain rfl : s = nx := by omega
    exact br_t (nI_le (Nat.le_refl _) (by omega)) hp
  | succ d ih =>
    intro s n h hn
    obtain ⟨m, rfl⟩ : ∃ m, n = m + 1 := ⟨n - 1, by omega⟩
    have k := ih (s + 1) m (by omega) (by omega)
    refine br_f (nI_ge (by omega) (by omega)) (xa_out (by omega) (rt_br _ (fun e => ?_) (fun e => ⟨rt_in (by omega), rt_bz (by omega) (fun y => ?_) (fun y => ?_)⟩)))
    · rw [rt_cn_f (rt_fl_a e)] at k; exact nm_r (nI_1 s) k
    · rw [rt_cn_t (rt_fl_t e y)] at k; exact nm_r (nI_1 _) (nm_r (nI_1 s) k)
    · rw [rt_cn_f (rt_fl_b y)] at k; exact nm_r (nI_1 s) k
theorem xa_infl (hx : nx ≤ 64) (hp : post (nI (rt_cn (rt_fl sd dl lo) nx))) : wpX_inflight post (ir, nw, cw, ss, ct, sa, nI wr, nI nx, nI tc, ms, sr, rv, mr, rx, rr, nI rm, nI sh, am, tp, pc, ps, ur, nI rp, rt, ds, un, tl, ro, lm, bs, re, sd, la, dl, lo, ep, ts, fl, ta) :=
  ⟨nx + 1, xa_infl_l hx hp nx 0 (nx + 1) (by omega) (by omega)⟩
theorem xa_next_l (hx : nx ≤ 64) (hw : wr ≤ 64) (h1 : ∀ j, j < nx → ¬ lo j = 0 → (∀ i, i < j → lo i = 0) → post (nI j)) (h2 : (∀ i, i < nx → lo i = 0) → wr ≤ nx → post (-1)) (h3 : (∀ i, i < nx → lo i = 0) → nx < wr → post (nI nx)) : ∀ d s n, s + d = nx → d < n → (∀ i, i < s → lo i = 0) → wX_nextToSend_2 post ir nw cw ss ct sa (nI wr) (nI nx) (nI tc) ms sr rv mr rx rr (nI rm) (nI sh) am tp pc ps ur (nI rp) rt ds un tl ro lm bs re sd la dl lo ep ts fl ta n (nI s) := by
  intro d
  induction d with
  | zero =>
    intro s n h hn hz
    obtain ⟨m, rfl⟩ : ∃ m, n = m + 1 := ⟨n - 1, by omega⟩
    obtain rfl : s = nx := by omega
    exact br_t (nI_le (Nat.le_refl _) (by omega)) (pk_le wr s (h2 hz) (h3 hz))
  | succ d ih =>
    intro s n h hn hz
    obtain ⟨m, rfl⟩ : ∃ m, n = m + 1 := ⟨n - 1, by omega⟩
    refine br_f (nI_ge (by omega) (by omega)) ⟨rt_in (by omega), rt_bz (by omega) (fun y => ?_) (fun y => h1 s (by omega) y hz)⟩
    exact nm_r (nI_1 s) (ih (s + 1) m (by omega) (by omega) (lt_s hz y))
theorem xa_next (hx : nx ≤ 64) (hw : wr ≤ 64) (h1 : ∀ j, j < nx → ¬ lo j = 0 → (∀ i, i < j → lo i = 0) → post (nI j)) (h2 : (∀ i, i < nx → lo i = 0) → wr ≤ nx → post (-1)) (h3 : (∀ i, i < nx → lo i = 0) → nx < wr → post (nI nx)) : wpX_nextToSend post (ir, nw, cw, ss, ct, sa, nI wr, nI nx, nI tc, ms, sr, rv, mr, rx, rr, nI rm, nI sh, am, tp, pc, ps, ur, nI rp, rt, ds, un, tl, ro, lm, bs, re, sd, la, dl, lo, ep, ts, fl, ta) :=
  ⟨nx + 1, xa_next_l hx hw h1 h2 h3 nx 0 (nx + 1) (by omega) (by omega) lt_0⟩
theorem xa_lo_l (hx : nx ≤ 64) (h1 : ∀ j, j < nx → rt_ou sd dl j = true → post (nI j)) (h2 : (∀ i, i < nx → rt_ou sd dl i = false) → post (-1)) : ∀ d s n, s + d = nx → d < n → (∀ i, i < s → rt_ou sd dl i = false) → wX_leastOutstanding_2 post ir nw cw ss ct sa (nI wr) (nI nx) (nI tc) ms sr rv mr rx rr (nI rm) (nI sh) am tp pc ps ur (nI rp) rt ds un tl ro lm bs re sd la dl lo ep ts fl ta n (nI s) := by
  intro d
  induction d with
  | zero =>
    intro s n h hn hz
    obtain ⟨m, rfl⟩ : ∃ m, n = m + 1 := ⟨n - 1, by omega⟩
    obtain rfl : s = nx := by omega
    exact br_t (nI_le (Nat.le_refl _) (by omega)) (h2 hz)
  | succ d ih =>
    intro s n h hn hz
    obtain ⟨m, rfl⟩ : ∃ m, n = m + 1 := ⟨n - 1, by omega⟩
    refine br_f (nI_ge (by omega) (by omega)) (xa_out (by omega) (rt_br _ (fun e => ?_) (fun e => h1 s (by omega) e)))
    exact nm_r (nI_1 s) (ih (s + 1) m (by omega) (by omega) (lt_s hz e))
theorem xa_lo (hx : nx ≤ 64) (h1 : ∀ j, j < nx → rt_ou sd dl j = true → post (nI j)) (h2 : (∀ i, i < nx → rt_ou sd dl i = false) → post (-1)) : wpX_leastOutstanding post (ir, nw, cw, ss, ct, sa, nI wr, nI nx, nI tc, ms, sr, rv, mr, rx, rr, nI rm, nI sh, am, tp, pc, ps, ur, nI rp, rt, ds, un, tl, ro, lm, bs, re, sd, la, dl, lo, ep, ts, fl, ta) :=
  ⟨nx + 1, xa_lo_l hx h1 h2 nx 0 (nx + 1) (by omega) (by omega) lt_0⟩
theorem xa_lc_l (hx : nx ≤ 64) (h1 : ∀ j, j < nx → rt_ca sd dl lo la rx j = true → post (nI j)) (h2 : (∀ i, i < nx → rt_ca sd dl lo la rx i = false) → post (-1)) : ∀ d s n, s + d = nx → d < n → (∀ i, i < s → rt_ca sd dl lo la rx i = false) → wX_leastCandidate_2 post ir nw cw ss ct sa (nI wr) (nI nx) (nI tc) ms sr rv mr rx rr (nI rm) (nI sh) am tp pc ps ur (nI rp) rt ds un tl ro lm bs re sd la dl lo ep ts fl ta n (nI s) := by
  intro d
  induction d with
  | zero =>
    intro s n h hn hz
    obtain ⟨m, rfl⟩ : ∃ m, n = m + 1 := ⟨n - 1, by omega⟩
    obtain rfl : s = nx := by omega
    exact br_t (nI_le (Nat.le_refl _) (by omega)) (h2 hz)
  | succ d ih =>
    intro s n h hn hz
    obtain ⟨m, rfl⟩ : ∃ m, n = m + 1 := ⟨n - 1, by omega⟩
    refine br_f (nI_ge (by omega) (by omega)) (xa_can (by omega) (rt_br _ (fun e => ?_) (fun e => h1 s (by omega) e)))
    exact nm_r (nI_1 s) (ih (s + 1) m (by omega) (by omega) (lt_s hz e))
theorem xa_lc (hx : nx ≤ 64) (h1 : ∀ j, j < nx → rt_ca sd dl lo la rx j = true → post (nI j)) (h2 : (∀ i, i < nx → rt_ca sd dl lo la rx i = false) → post (-1)) : wpX_leastCandidate post (ir, nw, cw, ss, ct, sa, nI wr, nI nx, nI tc, ms, sr, rv, mr, rx, rr, nI rm, nI sh, am, tp, pc, ps, ur, nI rp, rt, ds, un, tl, ro, lm, bs, re, sd, la, dl, lo, ep, ts, fl, ta) :=
  ⟨nx + 1, xa_lc_l hx h1 h2 nx 0 (nx + 1) (by omega) (by omega) lt_0⟩
theorem xa_go_l (hx : nx ≤ 64) (hp : post (rt_gl (rt_ou sd dl) nx)) : ∀ d n, d ≤ nx → d < n → rt_gl (rt_ou sd dl) d = rt_gl (rt_ou sd dl) nx → wX_greatestOutstanding_7 post ir nw cw ss ct sa (nI wr) (nI nx) (nI tc) ms sr rv mr rx rr (nI rm) (nI sh) am tp pc ps ur (nI rp) rt ds un tl ro lm bs re sd la dl lo ep ts fl ta n (nI d - 1) := by
  intro d
  induction d with
  | zero =>
    intro n h hn he
    obtain ⟨m, rfl⟩ : ∃ m, n = m + 1 := ⟨n - 1, by omega⟩
    rw [← he] at hp
    exact br_t (by decide) hp
  | succ d ih =>
    intro n h hn he
    obtain ⟨m, rfl⟩ : ∃ m, n = m + 1 := ⟨n - 1, by omega⟩
    rw [nI_pred]
    refine br_f (nI_pos (by omega)) (xa_out (by omega) (rt_br _ (fun e => ?_) (fun e => ?_)))
    · refine nm_r (Int32.add_neg_eq_sub (a := nI d) (b := 1)) (ih m (by omega) (by omega) ?_)
      rw [rt_gl_f e] at he; exact he
    · rw [rt_gl_t e] at he; rw [← he] at hp; exact hp
theorem xa_go (hx : nx ≤ 64) (hp : post (rt_gl (rt_ou sd dl) nx)) : wpX_greatestOutstanding post (ir, nw, cw, ss, ct, sa, nI wr, nI nx, nI tc, ms, sr, rv, mr, rx, rr, nI rm, nI sh, am, tp, pc, ps, ur, nI rp, rt, ds, un, tl, ro, lm, bs, re, sd, la, dl, lo, ep, ts, fl, ta) :=
  nm_e ⟨nx + 1, xa_go_l hx hp nx (nx + 1) (Nat.le_refl _) (by omega) rfl⟩
theorem xa_rw (hp : post (rt_rw ms sr mr rm)) : wpX_reoWnd post (ir, nw, cw, ss, ct, sa, nI wr, nI nx, nI tc, ms, sr, rv, mr, rx, rr, nI rm, nI sh, am, tp, pc, ps, ur, nI rp, rt, ds, un, tl, ro, lm, bs, re, sd, la, dl, lo, ep, ts, fl, ta) :=
  br_c (fun z => by rw [rt_rw_0 z] at hp; exact hp) (fun z => ⟨by decide, nm_e (br_c (fun y => by rw [rt_rw_1 z y] at hp; exact hp) (fun y => by rw [rt_rw_2 z y] at hp; exact hp))⟩)
theorem xa_ld (hl : rt_IL la) (hs : s < 64) (hp : post ((ta (la s).toNatClampNeg + rr) + rt_rw ms sr mr rm)) : wpX_lossDeadline post (ir, nw, cw, ss, ct, sa, nI wr, nI nx, nI tc, ms, sr, rv, mr, rx, rr, nI rm, nI sh, am, tp, pc, ps, ur, nI rp, rt, ds, un, tl, ro, lm, bs, re, sd, la, dl, lo, ep, ts, fl, ta) (nI s) := by
  unfold wpX_lossDeadline
  rw [nI_clamp (by omega : s < 2 ^ 31)]
  exact ⟨rt_in hs, rt_IL_in hl s, xa_rw hp⟩
theorem xa_larger {x y : Int32} (hp : post (rt_mx x y)) : wpX_larger post x y :=
  br_c (fun z => by rw [rt_mx_l z] at hp; exact hp) (fun z => by rw [rt_mx_n z] at hp; exact hp)
theorem xa_clamp {x y z : Int32} (hp : post (rt_cl x y z)) : wpX_clamp post x y z :=
  br_c (fun a => br_c (fun b => by rw [rt_cl_c (Int32.not_lt.mpr a) (Int32.not_lt.mpr b)] at hp; exact hp) (fun b => by rw [rt_cl_b (Int32.not_lt.mpr a) (Int32.not_le.mp b)] at hp; exact hp)) (fun a => by rw [rt_cl_a (Int32.not_le.mp a)] at hp; exact hp)
theorem xa_pto (hp : post (rt_mx (2 * sr) 2)) : wpX_pto post (ir, nw, cw, ss, ct, sa, nI wr, nI nx, nI tc, ms, sr, rv, mr, rx, rr, nI rm, nI sh, am, tp, pc, ps, ur, nI rp, rt, ds, un, tl, ro, lm, bs, re, sd, la, dl, lo, ep, ts, fl, ta) := by
  unfold wpX_pto
  exact xa_larger hp
theorem xa_rto (hp : post (rt_ro ir ms sr rv sh)) : wpX_rto post (ir, nw, cw, ss, ct, sa, nI wr, nI nx, nI tc, ms, sr, rv, mr, rx, rr, nI rm, nI sh, am, tp, pc, ps, ur, nI rp, rt, ds, un, tl, ro, lm, bs, re, sd, la, dl, lo, ep, ts, fl, ta) := by
  refine br_c (fun z => ?_) (fun z => ?_)
  · unfold rt_ro at hp; rw [rt_bb_0 z] at hp; exact xa_clamp hp
  · unfold rt_ro at hp; rw [rt_bb_1 z] at hp; exact xa_larger (nm_e (xa_clamp hp))
theorem xa_ra_l {w : Int32} (hx : nx ≤ 64) (hl : rt_IL la) (hp : post (rt_fo (rt_ou sd dl) (fun s => ta (la s).toNatClampNeg + w) nx).2) : ∀ d s n, s + d = nx → d < n → wX_rtoAt_12 post w ir nw cw ss ct sa (nI wr) (nI nx) (nI tc) ms sr rv mr rx rr (nI rm) (nI sh) am tp pc ps ur (nI rp) rt ds un tl ro lm bs re sd la dl lo ep ts fl ta n (rt_b (rt_fo (rt_ou sd dl) (fun s => ta (la s).toNatClampNeg + w) s).1) (rt_fo (rt_ou sd dl) (fun s => ta (la s).toNatClampNeg + w) s).2 (nI s) := by
  intro d
  induction d with
  | zero =>
    intro s n h hn
    obtain ⟨m, rfl⟩ : ∃ m, n = m + 1 := ⟨n - 1, by omega⟩
    obtain rfl : s = nx := by omega
    exact br_t (nI_le (Nat.le_refl _) (by omega)) hp
  | succ d ih =>
    intro s n h hn
    obtain ⟨m, rfl⟩ : ∃ m, n = m + 1 := ⟨n - 1, by omega⟩
    have k := ih (s + 1) m (by omega) (by omega)
    refine br_f (nI_ge (by omega) (by omega)) (xa_out (by omega) (rt_br _ (fun e => ?_) (fun e => ⟨rt_in (by omega), by rw [rt_cp (by omega)]; exact rt_IL_in hl s, nm_r (e' := ta (la s).toNatClampNeg + w) (by rw [rt_cp (by omega)]) (rt_br _ (fun y => ?_) (fun y => br_c (fun z => ?_) (fun z => ?_)))⟩)))
    · rw [rt_fo_f e] at k; exact nm_r (nI_1 s) k
    · rw [rt_fo_a e y] at k; exact nm_r (nI_1 s) k
    · rw [rt_fo_b e y z] at k; exact nm_r (nI_1 s) k
    · rw [rt_fo_c e z] at k; exact nm_r (nI_1 s) k
theorem xa_ra (hx : nx ≤ 64) (hl : rt_IL la) (hp : post (rt_fo (rt_ou sd dl) (fun s => ta (la s).toNatClampNeg + rt_ro ir ms sr rv sh) nx).2) : wpX_rtoAt post (ir, nw, cw, ss, ct, sa, nI wr, nI nx, nI tc, ms, sr, rv, mr, rx, rr, nI rm, nI sh, am, tp, pc, ps, ur, nI rp, rt, ds, un, tl, ro, lm, bs, re, sd, la, dl, lo, ep, ts, fl, ta) := by
  unfold wpX_rtoAt
  exact xa_rto ⟨nx + 1, xa_ra_l hx hl hp nx 0 (nx + 1) (by omega) (by omega)⟩
theorem xa_re_l (hx : nx ≤ 64) (hl : rt_IL la) (hp : post (rt_fo (rt_ca sd dl lo la rx) (fun s => (ta (la s).toNatClampNeg + rr) + rt_rw ms sr mr rm) nx).2) : ∀ d s n, s + d = nx → d < n → wX_reoAt_6 post ir nw cw ss ct sa (nI wr) (nI nx) (nI tc) ms sr rv mr rx rr (nI rm) (nI sh) am tp pc ps ur (nI rp) rt ds un tl ro lm bs re sd la dl lo ep ts fl ta n (rt_b (rt_fo (rt_ca sd dl lo la rx) (fun s => (ta (la s).toNatClampNeg + rr) + rt_rw ms sr mr rm) s).1) (rt_fo (rt_ca sd dl lo la rx) (fun s => (ta (la s).toNatClampNeg + rr) + rt_rw ms sr mr rm) s).2 (nI s) := by
  intro d
  induction d with
  | zero =>
    intro s n h hn
    obtain ⟨m, rfl⟩ : ∃ m, n = m + 1 := ⟨n - 1, by omega⟩
    obtain rfl : s = nx := by omega
    exact br_t (nI_le (Nat.le_refl _) (by omega)) hp
  | succ d ih =>
    intro s n h hn
    obtain ⟨m, rfl⟩ : ∃ m, n = m + 1 := ⟨n - 1, by omega⟩
    have k := ih (s + 1) m (by omega) (by omega)
    refine br_f (nI_ge (by omega) (by omega)) (xa_can (by omega) (rt_br _ (fun e => ?_) (fun e => xa_ld hl (by omega) (rt_br _ (fun y => ?_) (fun y => br_c (fun z => ?_) (fun z => ?_))))))
    · rw [rt_fo_f e] at k; exact nm_r (nI_1 s) k
    · rw [rt_fo_a e y] at k; exact nm_r (nI_1 s) k
    · rw [rt_fo_b e y z] at k; exact nm_r (nI_1 s) k
    · rw [rt_fo_c e z] at k; exact nm_r (nI_1 s) k
theorem xa_re (hx : nx ≤ 64) (hl : rt_IL la) (hp : post (rt_fo (rt_ca sd dl lo la rx) (fun s => (ta (la s).toNatClampNeg + rr) + rt_rw ms sr mr rm) nx).2) : wpX_reoAt post (ir, nw, cw, ss, ct, sa, nI wr, nI nx, nI tc, ms, sr, rv, mr, rx, rr, nI rm, nI sh, am, tp, pc, ps, ur, nI rp, rt, ds, un, tl, ro, lm, bs, re, sd, la, dl, lo, ep, ts, fl, ta) :=
  ⟨nx + 1, xa_re_l hx hl hp nx 0 (nx + 1) (by omega) (by omega)⟩
theorem xa_db_l {b : Nat} (hb : b ≤ 64) (hp : post (nI (rt_cn (rt_nz dl) b))) : ∀ d s n, s + d = b → d < n → wX_deliveredBelow_4 post (nI b) ir nw cw ss ct sa (nI wr) (nI nx) (nI tc) ms sr rv mr rx rr (nI rm) (nI sh) am tp pc ps ur (nI rp) rt ds un tl ro lm bs re sd la dl lo ep ts fl ta n (nI (rt_cn (rt_nz dl) s)) (nI s) := by
  intro d
  induction d with
  | zero =>
    intro s n h hn
    obtain ⟨m, rfl⟩ : ∃ m, n = m + 1 := ⟨n - 1, by omega⟩
    obtain rfl : s = b := by omega
    exact br_t (nI_le (Nat.le_refl _) (by omega)) hp
  | succ d ih =>
    intro s n h hn
    obtain ⟨m, rfl⟩ : ∃ m, n = m + 1 := ⟨n - 1, by omega⟩
    have k := ih (s + 1) m (by omega) (by omega)
    refine br_f (nI_ge (by omega) (by omega)) (br_f (rt_64 s (by omega)) ⟨rt_in (by omega), rt_bz (by omega) (fun y => ?_) (fun y => ?_)⟩)
    · rw [rt_cn_f (rt_nz_f y)] at k; exact nm_r (nI_1 s) k
    · rw [rt_cn_t (rt_nz_t y)] at k; exact nm_r (nI_1 _) (nm_r (nI_1 s) k)
theorem xa_db {b : Nat} (hb : b ≤ 64) (hp : post (nI (rt_cn (rt_nz dl) b))) : wpX_deliveredBelow post (ir, nw, cw, ss, ct, sa, nI wr, nI nx, nI tc, ms, sr, rv, mr, rx, rr, nI rm, nI sh, am, tp, pc, ps, ur, nI rp, rt, ds, un, tl, ro, lm, bs, re, sd, la, dl, lo, ep, ts, fl, ta) (nI b) :=
  ⟨b + 1, xa_db_l hb hp b 0 (b + 1) (by omega) (by omega)⟩
end
end
section
/-! the reference: what it only reads -/
section
variable {ir nw cw ss ct sa ms sr rv mr rx rr am tp pc ps ur rt ds un tl ro lm : Int32} {wr nx tc rm sh rp : Nat} {bs re sd la dl lo ep ts fl ta : Nat → Int32} {ry hr dc : Int32} {rb mk aa ax ap : Nat → Int32} {post : Int32 → Prop} {s : Nat}
theorem ya_out (hs : s < 64) (h : post (rt_b (rt_ou sd dl s))) : wpY_outstanding post (ir, nI wr, nI tc, nw, cw, ss, ct, sa, nI nx, sr, rv, mr, ry, rr, nI rm, nI sh, am, pc, ps, ur, nI rp, rt, ds, un, tl, ro, lm, dc, ms, ms, hr, tp, bs, rb, re, sd, la, dl, lo, ep, mk, ts, ta, aa, ax, ap) (nI s) := by
  unfold wpY_outstanding
  rw [nI_clamp (by omega : s < 2 ^ 31)]
  refine br_f (nI_pos (by omega)) (br_f (rt_64 s hs) ⟨rt_in hs, br_c (fun z => ?_) (fun z => ⟨rt_in hs, br_c (fun y => ?_) (fun y => ?_)⟩)⟩)
  · rw [rt_ou_a (Int32.not_lt.mpr z)] at h; exact h
  · rw [rt_ou_t (Int32.not_le.mp z) y] at h; exact h
  · rw [rt_ou_b y] at h; exact h
theorem ya_can (hl : rt_IL la) (hk : rt_IK rx ry hr) (hs : s < 64) (h : post (rt_b (rt_ca sd dl lo la rx s))) : wpY_candidate post (ir, nI wr, nI tc, nw, cw, ss, ct, sa, nI nx, sr, rv, mr, ry, rr, nI rm, nI sh, am, pc, ps, ur, nI rp, rt, ds, un, tl, ro, lm, dc, ms, ms, hr, tp, bs, rb, re, sd, la, dl, lo, ep, mk, ts, ta, aa, ax, ap) (nI s) := by
  unfold wpY_candidate
  rw [nI_clamp (by omega : s < 2 ^ 31)]
  have hK := rt_IK_ca hk hl s
  refine ya_out hs (rt_br _ (fun e => ?_) (fun e => ⟨rt_in hs, br_c (fun y => br_c (fun x => ?_) (fun x => ⟨rt_in hs, br_c (fun w => ?_) (fun w => ?_)⟩)) (fun y => ?_)⟩))
  · rw [rt_ca_a e] at h; exact h
  · rw [rt_ca_c (fun z => (hK.mp z).1 x)] at h; exact h
  · rw [rt_ca_c (fun z => Int32.not_lt.mpr w (hK.mp z).2)] at h; exact h
  · rw [rt_ca_t e y (hK.mpr ⟨x, Int32.not_le.mp w⟩)] at h; exact h
  · rw [rt_ca_b y] at h; exact h
theorem ya_infl_l (hp : post (nI (rt_cn (rt_fl sd dl lo) 64))) : ∀ d s n, s + d = 64 → d < n → wY_inflight_4 post ir (nI wr) (nI tc) nw cw ss ct sa (nI nx) sr rv mr ry rr (nI rm) (nI sh) am pc ps ur (nI rp) rt ds un tl ro lm dc ms ms hr tp bs rb re sd la dl lo ep mk ts ta aa ax ap n (nI (rt_cn (rt_fl sd dl lo) s)) (nI s) := by
  intro d
  induction d with
  | zero =>
    intro s n h hn
    obtain ⟨m, rfl⟩ : ∃ m, n = m + 1 := ⟨n - 1, by omega⟩
    obtain rfl : s = 64 := by omega
    exact br_t rt_64e hp
  | succ d ih =>
    intro s n h hn
    obtain ⟨m, rfl⟩ : ∃ m, n = m + 1 := ⟨n - 1, by omega⟩
    have k := ih (s + 1) m (by omega) (by omega)
    refine br_f (rt_64 s (by omega)) (ya_out (by omega) (rt_br _ (fun e => ?_) (fun e => ⟨rt_in (by omega), rt_bz (by omega) (fun y => ?_) (fun y => ?_)⟩)))
    · rw [rt_cn_f (rt_fl_a e)] at k; exact nm_r (nI_1 s) k
    · rw [rt_cn_t (rt_fl_t e y)] at k; exact nm_r (nI_1 _) (nm_r (nI_1 s) k)
    · rw [rt_cn_f (rt_fl_b y)] at k; exact nm_r (nI_1 s) k
theorem ya_infl {t : Nat} (hx : nx ≤ 64) (hS : rt_IS nx t sd) (hp : post (nI (rt_cn (rt_fl sd dl lo) nx))) : wpY_inflight post (ir, nI wr, nI tc, nw, cw, ss, ct, sa, nI nx, sr, rv, mr, ry, rr, nI rm, nI sh, am, pc, ps, ur, nI rp, rt, ds, un, tl, ro, lm, dc, ms, ms, hr, tp, bs, rb, re, sd, la, dl, lo, ep, mk, ts, ta, aa, ax, ap) := by
  obtain ⟨d, hd⟩ : ∃ d, 64 = nx + d := ⟨64 - nx, by omega⟩
  rw [← rt_cn_hi (rt_fl sd dl lo) (rt_IS_fl hS dl lo) d, ← hd] at hp
  exact ⟨65, ya_infl_l hp 64 0 65 (by omega) (by omega)⟩
theorem ya_rw (hp : post (rt_rw ms sr mr rm)) : wpY_reoWnd post (ir, nI wr, nI tc, nw, cw, ss, ct, sa, nI nx, sr, rv, mr, ry, rr, nI rm, nI sh, am, pc, ps, ur, nI rp, rt, ds, un, tl, ro, lm, dc, ms, ms, hr, tp, bs, rb, re, sd, la, dl, lo, ep, mk, ts, ta, aa, ax, ap) :=
  br_c (fun z => by rw [rt_rw_0 z] at hp; exact hp) (fun z => ⟨by decide, nm_e (br_c (fun y => by rw [rt_rw_1 z y] at hp; exact hp) (fun y => by rw [rt_rw_2 z y] at hp; exact hp))⟩)
theorem ya_pto (hp : post (rt_mx (2 * sr) 2)) : wpY_pto post (ir, nI wr, nI tc, nw, cw, ss, ct, sa, nI nx, sr, rv, mr, ry, rr, nI rm, nI sh, am, pc, ps, ur, nI rp, rt, ds, un, tl, ro, lm, dc, ms, ms, hr, tp, bs, rb, re, sd, la, dl, lo, ep, mk, ts, ta, aa, ax, ap) :=
  nm_e (br_c (fun z => by rw [rt_mx_g z] at hp; exact hp) (fun z => by rw [rt_mx_l (rt_nle z)] at hp; exact hp))
theorem ya_rto_l {b : Nat} (h6 : sh ≤ 6) (hp : post (nI (b * 2 ^ sh))) : ∀ d i n, i + d = sh → d < n → wY_rto_53 post ir (nI wr) (nI tc) nw cw ss ct sa (nI nx) sr rv mr ry rr (nI rm) (nI sh) am pc ps ur (nI rp) rt ds un tl ro lm dc ms ms hr tp bs rb re sd la dl lo ep mk ts ta aa ax ap n (nI (b * 2 ^ i)) (nI i) := by
  intro d
  induction d with
  | zero =>
    intro i n h hn
    obtain ⟨m, rfl⟩ : ∃ m, n = m + 1 := ⟨n - 1, by omega⟩
    obtain rfl : i = sh := by omega
    exact br_t (nI_le (Nat.le_refl _) (by omega)) hp
  | succ d ih =>
    intro i n h hn
    obtain ⟨m, rfl⟩ : ∃ m, n = m + 1 := ⟨n - 1, by omega⟩
    have k := ih (i + 1) m (by omega) (by omega)
    refine br_f (nI_ge (by omega) (by omega)) (br_f (nI_ge (b := 6) (by omega) (by decide)) ?_)
    refine nm_r (e' := nI (b * 2 ^ (i + 1))) ?_ (nm_r (nI_1 i) k)
    show nI (b * 2 ^ i) * nI 2 = _
    rw [pk_mul, Nat.pow_succ, Nat.mul_assoc]
theorem ya_rto_b {x : Int32} (h6 : sh ≤ 6) (hp : post (rt_cl x 4 4000 <<< (nI sh &&& 31))) : wY_rto_33 post x ir (nI wr) (nI tc) nw cw ss ct sa (nI nx) sr rv mr ry rr (nI rm) (nI sh) am pc ps ur (nI rp) rt ds un tl ro lm dc ms ms hr tp bs rb re sd la dl lo ep mk ts ta aa ax ap := by
  obtain ⟨b, hb, e⟩ := rt_cl_nat x
  have h2 : 2 ^ sh ≤ 2 ^ 6 := Nat.pow_le_pow_right (by decide) h6
  have h3 : b * 2 ^ sh ≤ 4000 * 2 ^ 6 := Nat.mul_le_mul hb h2
  have hq := hp
  rw [e, pk_shlN (nI sh &&& 31) sh (s_l sh (by omega)) (by omega)] at hq
  have W : ∃ n53 : Nat, wY_rto_53 post ir (nI wr) (nI tc) nw cw ss ct sa (nI nx) sr rv mr ry rr (nI rm) (nI sh) am pc ps ur (nI rp) rt ds un tl ro lm dc ms ms hr tp bs rb re sd la dl lo ep mk ts ta aa ax ap n53 (nI b) 0 := by
    refine ⟨sh + 1, ?_⟩
    have k := ya_rto_l (ir := ir) (nw := nw) (cw := cw) (ss := ss) (ct := ct) (sa := sa) (ms := ms) (sr := sr) (rv := rv) (mr := mr) (rr := rr) (am := am) (tp := tp) (pc := pc) (ps := ps) (ur := ur) (rt := rt) (ds := ds) (un := un) (tl := tl) (ro := ro) (lm := lm) (wr := wr) (nx := nx) (tc := tc) (rm := rm) (rp := rp) (bs := bs) (re := re) (sd := sd) (la := la) (dl := dl) (lo := lo) (ep := ep) (ts := ts) (ta := ta) (ry := ry) (hr := hr) (dc := dc) (rb := rb) (mk := mk) (aa := aa) (ax := ax) (ap := ap) h6 hq sh 0 (sh + 1) (by omega) (by omega)
    rw [Nat.pow_zero, Nat.mul_one] at k
    exact k
  refine br_c (fun z => br_c (fun y => ?_) (fun y => ?_)) (fun z => br_t (by decide) ?_)
  · rw [rt_cl_c (Int32.not_lt.mpr z) (Int32.not_lt.mpr y)] at e; rw [e]; exact W
  · rw [rt_cl_b (Int32.not_lt.mpr z) (Int32.not_le.mp y)] at e; rw [e]; exact W
  · rw [rt_cl_a (Int32.not_le.mp z)] at e; rw [e]; exact W
theorem ya_rto (h6 : sh ≤ 6) (hp : post (rt_ro ir ms sr rv sh)) : wpY_rto post (ir, nI wr, nI tc, nw, cw, ss, ct, sa, nI nx, sr, rv, mr, ry, rr, nI rm, nI sh, am, pc, ps, ur, nI rp, rt, ds, un, tl, ro, lm, dc, ms, ms, hr, tp, bs, rb, re, sd, la, dl, lo, ep, mk, ts, ta, aa, ax, ap) := by
  unfold rt_ro at hp
  refine br_c (fun z => ?_) (fun z => nm_e (br_c (fun y => nm_e ?_) (fun y => nm_e ?_)))
  · rw [rt_bb_0 z] at hp; exact ya_rto_b h6 hp
  · rw [rt_bb_1 z, rt_mx_l y] at hp; exact ya_rto_b h6 hp
  · rw [rt_bb_1 z, rt_mx_g (rt_nle y)] at hp; exact ya_rto_b h6 hp
theorem ya_tm_l {w R W : Int32} (hl : rt_IL la) (hk : rt_IK rx ry hr) (hp : ∀ n, wY_timer_25 post w R W ir (nI wr) (nI tc) nw cw ss ct sa (nI nx) sr rv mr ry rr (nI rm) (nI sh) am pc ps ur (nI rp) rt ds un tl ro lm dc ms ms hr tp bs rb re sd la dl lo ep mk ts ta aa ax ap (n + 1) (rt_b (rt_fo (rt_ou sd dl) (fun s => ta (la s).toNatClampNeg + R) 64).1) (rt_fo (rt_ou sd dl) (fun s => ta (la s).toNatClampNeg + R) 64).2 (rt_b (rt_fo (rt_ca sd dl lo la rx) (fun s => (ta (la s).toNatClampNeg + rr) + W) 64).1) (rt_fo (rt_ca sd dl lo la rx) (fun s => (ta (la s).toNatClampNeg + rr) + W) 64).2 (nI 64)) : ∀ d s n, s + d = 64 → d < n → wY_timer_25 post w R W ir (nI wr) (nI tc) nw cw ss ct sa (nI nx) sr rv mr ry rr (nI rm) (nI sh) am pc ps ur (nI rp) rt ds un tl ro lm dc ms ms hr tp bs rb re sd la dl lo ep mk ts ta aa ax ap n (rt_b (rt_fo (rt_ou sd dl) (fun s => ta (la s).toNatClampNeg + R) s).1) (rt_fo (rt_ou sd dl) (fun s => ta (la s).toNatClampNeg + R) s).2 (rt_b (rt_fo (rt_ca sd dl lo la rx) (fun s => (ta (la s).toNatClampNeg + rr) + W) s).1) (rt_fo (rt_ca sd dl lo la rx) (fun s => (ta (la s).toNatClampNeg + rr) + W) s).2 (nI s) := by
  intro d
  induction d with
  | zero =>
    intro s n h hn
    obtain ⟨m, rfl⟩ : ∃ m, n = m + 1 := ⟨n - 1, by omega⟩
    obtain rfl : s = 64 := by omega
    exact hp m
  | succ d ih =>
    intro s n h hn
    obtain ⟨m, rfl⟩ : ∃ m, n = m + 1 := ⟨n - 1, by omega⟩
    have k := ih (s + 1) m (by omega) (by omega)
    -- the second half of the body: the candidate's deadline
    have T : ∀ a : Bool, ∀ b : Int32, rt_ou sd dl s = true → rt_fo (rt_ou sd dl) (fun s => ta (la s).toNatClampNeg + R) (s + 1) = (a, b) → wY_timer_81 post (wY_timer_25 post w R W ir (nI wr) (nI tc) nw cw ss ct sa (nI nx) sr rv mr ry rr (nI rm) (nI sh) am pc ps ur (nI rp) rt ds un tl ro lm dc ms ms hr tp bs rb re sd la dl lo ep mk ts ta aa ax ap m) w R W (rt_b a) b (rt_b (rt_fo (rt_ca sd dl lo la rx) (fun s => (ta (la s).toNatClampNeg + rr) + W) s).1) (rt_fo (rt_ca sd dl lo la rx) (fun s => (ta (la s).toNatClampNeg + rr) + W) s).2 (nI s) (ta (la s).toNatClampNeg) ir (nI wr) (nI tc) nw cw ss ct sa (nI nx) sr rv mr ry rr (nI rm) (nI sh) am pc ps ur (nI rp) rt ds un tl ro lm dc ms ms hr tp bs rb re sd la dl lo ep mk ts ta aa ax ap := by
      intro a b ho e
      rw [e] at k
      refine ya_can hl hk (by omega) (rt_br _ (fun f => ?_) (fun f => nm_e (rt_br _ (fun y => ?_) (fun y => br_c (fun z => ?_) (fun z => ?_)))))
      · rw [rt_fo_f f] at k; exact nm_r (nI_1 s) k
      · rw [rt_fo_a f y] at k; exact nm_r (nI_1 s) k
      · rw [rt_fo_b f y z] at k; rw [y]; exact nm_r (nI_1 s) k
      · rw [rt_fo_c f z] at k; exact nm_r (nI_1 s) k
    refine br_f (rt_64 s (by omega)) (ya_out (by omega) (rt_br _ (fun e => ?_) (fun e => ⟨rt_in (by omega), by rw [rt_cp (by omega)]; exact rt_IL_in hl s, nm_r (e' := ta (la s).toNatClampNeg) (by rw [rt_cp (by omega)]) (rt_br _ (fun y => nm_e ?_) (fun y => br_c (fun z => ?_) (fun z => nm_e ?_)))⟩)))
    · rw [rt_fo_f e, rt_fo_f (rt_ca_a e)] at k; exact nm_r (nI_1 s) k
    · exact T true _ e (rt_fo_a e y)
    · rw [y]; exact T true _ e (rt_fo_b e y z)
    · exact T true _ e (rt_fo_c e z)
theorem ya_tm {w : Int32} (h6 : sh ≤ 6) (hl : rt_IL la) (hk : rt_IK rx ry hr) (hp : ∀ n, wY_timer_25 post w (rt_ro ir ms sr rv sh) (rt_rw ms sr mr rm) ir (nI wr) (nI tc) nw cw ss ct sa (nI nx) sr rv mr ry rr (nI rm) (nI sh) am pc ps ur (nI rp) rt ds un tl ro lm dc ms ms hr tp bs rb re sd la dl lo ep mk ts ta aa ax ap (n + 1) (rt_b (rt_fo (rt_ou sd dl) (fun s => ta (la s).toNatClampNeg + rt_ro ir ms sr rv sh) 64).1) (rt_fo (rt_ou sd dl) (fun s => ta (la s).toNatClampNeg + rt_ro ir ms sr rv sh) 64).2 (rt_b (rt_fo (rt_ca sd dl lo la rx) (fun s => (ta (la s).toNatClampNeg + rr) + rt_rw ms sr mr rm) 64).1) (rt_fo (rt_ca sd dl lo la rx) (fun s => (ta (la s).toNatClampNeg + rr) + rt_rw ms sr mr rm) 64).2 (nI 64)) : wpY_timer post (ir, nI wr, nI tc, nw, cw, ss, ct, sa, nI nx, sr, rv, mr, ry, rr, nI rm, nI sh, am, pc, ps, ur, nI rp, rt, ds, un, tl, ro, lm, dc, ms, ms, hr, tp, bs, rb, re, sd, la, dl, lo, ep, mk, ts, ta, aa, ax, ap) w := by
  unfold wpY_timer
  exact ya_rto h6 (ya_rw ⟨65, ya_tm_l hl hk hp 64 0 65 (by omega) (by omega)⟩)
theorem ya_cm_l (hw : wr ≤ 64) (h1 : (∀ i, i < wr → ¬ dl i = 0) → post 1) (h0 : ∀ j, j < wr → dl j = 0 → post 0) : ∀ d s n, s + d = wr → d < n → (∀ i, i < s → ¬ dl i = 0) → wY_complete_2 post ir (nI wr) (nI tc) nw cw ss ct sa (nI nx) sr rv mr ry rr (nI rm) (nI sh) am pc ps ur (nI rp) rt ds un tl ro lm dc ms ms hr tp bs rb re sd la dl lo ep mk ts ta aa ax ap n (nI s) := by
  intro d
  induction d with
  | zero =>
    intro s n h hn hz
    obtain ⟨m, rfl⟩ : ∃ m, n = m + 1 := ⟨n - 1, by omega⟩
    obtain rfl : s = wr := by omega
    exact br_t (nI_le (Nat.le_refl _) (by omega)) (h1 hz)
  | succ d ih =>
    intro s n h hn hz
    obtain ⟨m, rfl⟩ : ∃ m, n = m + 1 := ⟨n - 1, by omega⟩
    refine br_f (nI_ge (by omega) (by omega)) (br_f (rt_64 s (by omega)) ⟨rt_in (by omega), rt_bz (by omega) (fun y => h0 s (by omega) y) (fun y => ?_)⟩)
    exact nm_r (nI_1 s) (ih (s + 1) m (by omega) (by omega) (lt_s hz y))
theorem ya_cm (hw : wr ≤ 64) (h1 : (∀ i, i < wr → ¬ dl i = 0) → post 1) (h0 : ∀ j, j < wr → dl j = 0 → post 0) : wpY_complete post (ir, nI wr, nI tc, nw, cw, ss, ct, sa, nI nx, sr, rv, mr, ry, rr, nI rm, nI sh, am, pc, ps, ur, nI rp, rt, ds, un, tl, ro, lm, dc, ms, ms, hr, tp, bs, rb, re, sd, la, dl, lo, ep, mk, ts, ta, aa, ax, ap) :=
  ⟨wr + 1, ya_cm_l hw h1 h0 wr 0 (wr + 1) (by omega) (by omega) lt_0⟩
/-! the length of what has come, in lockstep -/
theorem la_ca : ∃ r : Int32, (∀ post : Int32 → Prop, post r → wpX_cumAck post (ir, nw, cw, ss, ct, sa, nI wr, nI nx, nI tc, ms, sr, rv, mr, rx, rr, nI rm, nI sh, am, tp, pc, ps, ur, nI rp, rt, ds, un, tl, ro, lm, bs, re, sd, la, dl, lo, ep, ts, fl, ta)) ∧ (∀ post : Int32 → Prop, post r → wpY_cumAck post (ir, nI wr, nI tc, nw, cw, ss, ct, sa, nI nx, sr, rv, mr, ry, rr, nI rm, nI sh, am, pc, ps, ur, nI rp, rt, ds, un, tl, ro, lm, dc, ms, ms, hr, tp, bs, rb, re, sd, la, dl, lo, ep, mk, ts, ta, aa, ax, ap)) := by
  have K : ∀ d s, s + d = 64 → ∃ r : Int32, (∀ post : Int32 → Prop, post r → wX_cumAck_2 post ir nw cw ss ct sa (nI wr) (nI nx) (nI tc) ms sr rv mr rx rr (nI rm) (nI sh) am tp pc ps ur (nI rp) rt ds un tl ro lm bs re sd la dl lo ep ts fl ta (d + 1) (nI s)) ∧ (∀ post : Int32 → Prop, post r → wY_cumAck_4 post ir (nI wr) (nI tc) nw cw ss ct sa (nI nx) sr rv mr ry rr (nI rm) (nI sh) am pc ps ur (nI rp) rt ds un tl ro lm dc ms ms hr tp bs rb re sd la dl lo ep mk ts ta aa ax ap (d + 1) (nI s) (nI s)) := by
    intro d
    induction d with
    | zero =>
      intro s h
      obtain rfl : s = 64 := by omega
      exact ⟨nI 64, fun _ hp => br_t rt_64e hp, fun _ hp => br_t rt_64e hp⟩
    | succ d ih =>
      intro s h
      by_cases z : re s = 0
      · exact ⟨nI s, fun _ hp => br_f (rt_64 s (by omega)) ⟨rt_in (by omega), rt_bz (by omega) (fun _ => hp) (fun y => absurd z y)⟩, fun _ hp => br_f (rt_64 s (by omega)) ⟨rt_in (by omega), rt_bz (by omega) (fun _ => hp) (fun y => absurd z y)⟩⟩
      · obtain ⟨r, hX, hY⟩ := ih (s + 1) (by omega)
        exact ⟨r, fun post hp => br_f (rt_64 s (by omega)) ⟨rt_in (by omega), rt_bz (by omega) (fun y => absurd y z) (fun _ => nm_r (nI_1 s) (hX post hp))⟩, fun post hp => br_f (rt_64 s (by omega)) ⟨rt_in (by omega), rt_bz (by omega) (fun y => absurd y z) (fun _ => nm_r (nI_1 s) (nm_r (nI_1 s) (hY post hp)))⟩⟩
  obtain ⟨r, hX, hY⟩ := K 64 0 (by omega)
  exact ⟨r, fun post hp => ⟨65, hX post hp⟩, fun post hp => ⟨65, hY post hp⟩⟩
end
end
section
/-! the relation; the timers in lockstep -/
def rt_IV (nx wr tc rp sh rm : Nat) (rx ry hr dc : Int32) (bs re sd la dl lo ts fl rb aa ax ap : Nat → Int32) : Prop :=
  rt_IN nx wr tc rp sh rm ∧ rt_IS nx tc sd ∧ rt_IZ nx lo ∧ rt_IZ nx dl ∧ rt_IZ nx re ∧ rt_IL la ∧ rt_IT nx tc ts ∧ rt_IK rx ry hr ∧ rt_IF tc fl aa ax ap ∧ rt_IB re rb bs ∧ rt_IC dl dc
def rt_RL (tc : Nat) (u : SX) (v : SY) : Prop := ∃ (wr nx rm sh rp : Nat) (ir nw cw ss ct sa ms sr rv mr rx rr am tp pc ps ur rt ds un tl ro lm ry hr dc : Int32) (bs re sd la dl lo ep ts fl ta rb mk aa ax ap : Nat → Int32), u = (ir, nw, cw, ss, ct, sa, nI wr, nI nx, nI tc, ms, sr, rv, mr, rx, rr, nI rm, nI sh, am, tp, pc, ps, ur, nI rp, rt, ds, un, tl, ro, lm, bs, re, sd, la, dl, lo, ep, ts, fl, ta) ∧ v = (ir, nI wr, nI tc, nw, cw, ss, ct, sa, nI nx, sr, rv, mr, ry, rr, nI rm, nI sh, am, pc, ps, ur, nI rp, rt, ds, un, tl, ro, lm, dc, ms, ms, hr, tp, bs, rb, re, sd, la, dl, lo, ep, mk, ts, ta, aa, ax, ap) ∧ rt_IV nx wr tc rp sh rm rx ry hr dc bs re sd la dl lo ts fl rb aa ax ap
def i_Rel (k : Nat) (u : SX) (v : SY) : Prop := ∃ tc : Nat, rt_RL tc u v
theorem i_up {k : Nat} {u : SX} {v : SY} (h : i_Rel k u v) : i_Rel (k + 2) u v := h
section
variable {ir nw cw ss ct sa ms sr rv mr rx rr am tp pc ps ur rt ds un tl ro lm : Int32} {wr nx tc rm sh rp : Nat} {bs re sd la dl lo ep ts fl ta : Nat → Int32} {ry hr dc : Int32} {rb mk aa ax ap : Nat → Int32} {post : Int32 → Prop}
theorem rt_RLi (h : rt_IV nx wr tc rp sh rm rx ry hr dc bs re sd la dl lo ts fl rb aa ax ap) : rt_RL tc (ir, nw, cw, ss, ct, sa, nI wr, nI nx, nI tc, ms, sr, rv, mr, rx, rr, nI rm, nI sh, am, tp, pc, ps, ur, nI rp, rt, ds, un, tl, ro, lm, bs, re, sd, la, dl, lo, ep, ts, fl, ta) (ir, nI wr, nI tc, nw, cw, ss, ct, sa, nI nx, sr, rv, mr, ry, rr, nI rm, nI sh, am, pc, ps, ur, nI rp, rt, ds, un, tl, ro, lm, dc, ms, ms, hr, tp, bs, rb, re, sd, la, dl, lo, ep, mk, ts, ta, aa, ax, ap) :=
  ⟨wr, nx, rm, sh, rp, ir, nw, cw, ss, ct, sa, ms, sr, rv, mr, rx, rr, am, tp, pc, ps, ur, rt, ds, un, tl, ro, lm, ry, hr, dc, bs, re, sd, la, dl, lo, ep, ts, fl, ta, rb, mk, aa, ax, ap, rfl, rfl, h⟩
theorem la_tm (hI : rt_IV nx wr tc rp sh rm rx ry hr dc bs re sd la dl lo ts fl rb aa ax ap) : ∃ K A : Int32, (K = 0 ∨ K = 1 ∨ K = 2 ∨ K = 3) ∧ (∀ post : Int32 → Prop, post K → wpX_timerKind post (ir, nw, cw, ss, ct, sa, nI wr, nI nx, nI tc, ms, sr, rv, mr, rx, rr, nI rm, nI sh, am, tp, pc, ps, ur, nI rp, rt, ds, un, tl, ro, lm, bs, re, sd, la, dl, lo, ep, ts, fl, ta)) ∧ (∀ post : Int32 → Prop, post A → wpX_timerAt post (ir, nw, cw, ss, ct, sa, nI wr, nI nx, nI tc, ms, sr, rv, mr, rx, rr, nI rm, nI sh, am, tp, pc, ps, ur, nI rp, rt, ds, un, tl, ro, lm, bs, re, sd, la, dl, lo, ep, ts, fl, ta) K) ∧ (∀ post : Int32 → Prop, post K → wpY_timer post (ir, nI wr, nI tc, nw, cw, ss, ct, sa, nI nx, sr, rv, mr, ry, rr, nI rm, nI sh, am, pc, ps, ur, nI rp, rt, ds, un, tl, ro, lm, dc, ms, ms, hr, tp, bs, rb, re, sd, la, dl, lo, ep, mk, ts, ta, aa, ax, ap) 0) ∧ (∀ post : Int32 → Prop, post A → wpY_timer post (ir, nI wr, nI tc, nw, cw, ss, ct, sa, nI nx, sr, rv, mr, ry, rr, nI rm, nI sh, am, pc, ps, ur, nI rp, rt, ds, un, tl, ro, lm, dc, ms, ms, hr, tp, bs, rb, re, sd, la, dl, lo, ep, mk, ts, ta, aa, ax, ap) 1) := by
  obtain ⟨hN, hS, hZl, hZd, hZr, hL, hT, hK, hF, hB, hC⟩ := hI
  obtain ⟨n1, n2, n3, n4, n5, n6⟩ := hN
  have hx : nx ≤ 64 := by omega
  obtain ⟨dd, hdd⟩ : ∃ d, 64 = nx + d := ⟨64 - nx, by omega⟩
  have eO : rt_fo (rt_ou sd dl) (fun s => ta (la s).toNatClampNeg + rt_ro ir ms sr rv sh) 64 = rt_fo (rt_ou sd dl) (fun s => ta (la s).toNatClampNeg + rt_ro ir ms sr rv sh) nx := by
    rw [hdd]; exact rt_fo_hi (rt_IS_ou hS dl) dd
  have eC : rt_fo (rt_ca sd dl lo la rx) (fun s => (ta (la s).toNatClampNeg + rr) + rt_rw ms sr mr rm) 64 = rt_fo (rt_ca sd dl lo la rx) (fun s => (ta (la s).toNatClampNeg + rr) + rt_rw ms sr mr rm) nx := by
    rw [hdd]; exact rt_fo_hi (rt_IS_ca hS dl lo la rx) dd
  have YT : ∀ (post : Int32 → Prop) (w : Int32), (∀ n, wY_timer_25 post w (rt_ro ir ms sr rv sh) (rt_rw ms sr mr rm) ir (nI wr) (nI tc) nw cw ss ct sa (nI nx) sr rv mr ry rr (nI rm) (nI sh) am pc ps ur (nI rp) rt ds un tl ro lm dc ms ms hr tp bs rb re sd la dl lo ep mk ts ta aa ax ap (n + 1) (rt_b (rt_fo (rt_ou sd dl) (fun s => ta (la s).toNatClampNeg + rt_ro ir ms sr rv sh) nx).1) (rt_fo (rt_ou sd dl) (fun s => ta (la s).toNatClampNeg + rt_ro ir ms sr rv sh) nx).2 (rt_b (rt_fo (rt_ca sd dl lo la rx) (fun s => (ta (la s).toNatClampNeg + rr) + rt_rw ms sr mr rm) nx).1) (rt_fo (rt_ca sd dl lo la rx) (fun s => (ta (la s).toNatClampNeg + rr) + rt_rw ms sr mr rm) nx).2 (nI 64)) → wpY_timer post (ir, nI wr, nI tc, nw, cw, ss, ct, sa, nI nx, sr, rv, mr, ry, rr, nI rm, nI sh, am, pc, ps, ur, nI rp, rt, ds, un, tl, ro, lm, dc, ms, ms, hr, tp, bs, rb, re, sd, la, dl, lo, ep, mk, ts, ta, aa, ax, ap) w := by
    intro post w h
    rw [← eO, ← eC] at h
    exact ya_tm n5 hL hK h
  rcases rt_first (rt_ou sd dl) nx with hz | ⟨j, hj, hj1, _⟩
  · refine ⟨0, -1, Or.inl rfl, fun post hp => ?_, fun post hp => br_t (by decide) hp, fun post hp => YT post 0 (fun n => ?_), fun post hp => YT post 1 (fun n => ?_)⟩
    · unfold wpX_timerKind
      exact xa_lo hx (fun i hi e => by rw [hz i hi] at e; exact absurd e (by decide)) (fun _ => br_f (by decide) hp)
    · rw [rt_fo_n nx hz]; exact br_t rt_64e (br_t rfl (br_t rfl hp))
    · rw [rt_fo_n nx hz]; exact br_t rt_64e (br_t rfl (br_f (by decide) hp))
  · have o1 : ¬ rt_b (rt_fo (rt_ou sd dl) (fun s => ta (la s).toNatClampNeg + rt_ro ir ms sr rv sh) nx).1 = 0 := by rw [rt_fo_1 hj hj1]; decide
    have oz : ∀ {A : Prop}, (∀ i, i < nx → rt_ou sd dl i = false) → A := fun {A} z => by
      rw [z j hj] at hj1; exact absurd hj1 (by decide)
    rcases rt_first (rt_ca sd dl lo la rx) nx with cz | ⟨i, hi, hi1, _⟩
    · have c0 : rt_b (rt_fo (rt_ca sd dl lo la rx) (fun s => (ta (la s).toNatClampNeg + rr) + rt_rw ms sr mr rm) nx).1 = 0 := by rw [rt_fo_n nx cz]; rfl
      have XK : ∀ post : Int32 → Prop, ((ms = 0 → post 3) ∧ (¬ ms = 0 → ((sa = 0 → ((tp = 0 → wpX_pto (fun r_86 => wpX_rtoAt (fun r_126 => ((r_126 < (am + r_86) → post 3) ∧ (¬ r_126 < (am + r_86) → post 2))) (ir, nw, cw, ss, ct, sa, nI wr, nI nx, nI tc, ms, sr, rv, mr, rx, rr, nI rm, nI sh, am, tp, pc, ps, ur, nI rp, rt, ds, un, tl, ro, lm, bs, re, sd, la, dl, lo, ep, ts, fl, ta)) (ir, nw, cw, ss, ct, sa, nI wr, nI nx, nI tc, ms, sr, rv, mr, rx, rr, nI rm, nI sh, am, tp, pc, ps, ur, nI rp, rt, ds, un, tl, ro, lm, bs, re, sd, la, dl, lo, ep, ts, fl, ta)) ∧ (¬ tp = 0 → post 3))) ∧ (¬ sa = 0 → post 3)))) → wpX_timerKind post (ir, nw, cw, ss, ct, sa, nI wr, nI nx, nI tc, ms, sr, rv, mr, rx, rr, nI rm, nI sh, am, tp, pc, ps, ur, nI rp, rt, ds, un, tl, ro, lm, bs, re, sd, la, dl, lo, ep, ts, fl, ta) := by
        intro post h
        unfold wpX_timerKind
        exact xa_lo hx (fun i hi e => br_t (nI_pos' (by omega)) (xa_lc hx (fun k hk e => by rw [cz k hk] at e; exact absurd e (by decide)) (fun _ => br_t (by decide) h))) oz
      have A3 : ∀ post : Int32 → Prop, post (rt_fo (rt_ou sd dl) (fun s => ta (la s).toNatClampNeg + rt_ro ir ms sr rv sh) nx).2 → wpX_timerAt post (ir, nw, cw, ss, ct, sa, nI wr, nI nx, nI tc, ms, sr, rv, mr, rx, rr, nI rm, nI sh, am, tp, pc, ps, ur, nI rp, rt, ds, un, tl, ro, lm, bs, re, sd, la, dl, lo, ep, ts, fl, ta) 3 := fun post hp => br_f (by decide) (br_f (by decide) (br_f (by decide) (br_f (by decide) (br_t rfl (xa_ra hx hL hp)))))
      by_cases m0 : ms = 0
      · exact ⟨3, _, Or.inr (Or.inr (Or.inr rfl)), fun post hp => XK post (br_t m0 hp), A3, fun post hp => YT post 0 (fun n => br_t rt_64e (br_f o1 (br_t c0 (br_t m0 (br_t rfl hp))))), fun post hp => YT post 1 (fun n => br_t rt_64e (br_f o1 (br_t c0 (br_t m0 (br_f (by decide) hp)))))⟩
      by_cases s0 : sa = 0
      · by_cases t0 : tp = 0
        · by_cases l0 : (rt_fo (rt_ou sd dl) (fun s => ta (la s).toNatClampNeg + rt_ro ir ms sr rv sh) nx).2 < am + rt_mx (2 * sr) 2
          · exact ⟨3, _, Or.inr (Or.inr (Or.inr rfl)), fun post hp => XK post (br_f m0 (br_t s0 (br_t t0 (xa_pto (xa_ra hx hL (br_t l0 hp)))))), A3, fun post hp => YT post 0 (fun n => br_t rt_64e (br_f o1 (br_t c0 (br_f m0 (br_t s0 (br_t t0 (ya_pto (br_t l0 (br_t rfl hp))))))))), fun post hp => YT post 1 (fun n => br_t rt_64e (br_f o1 (br_t c0 (br_f m0 (br_t s0 (br_t t0 (ya_pto (br_t l0 (br_f (by decide) hp)))))))))⟩
          · exact ⟨2, am + rt_mx (2 * sr) 2, Or.inr (Or.inr (Or.inl rfl)), fun post hp => XK post (br_f m0 (br_t s0 (br_t t0 (xa_pto (xa_ra hx hL (br_f l0 hp)))))), fun post hp => br_f (by decide) (br_f (by decide) (br_f (by decide) (br_t rfl (xa_pto hp)))), fun post hp => YT post 0 (fun n => br_t rt_64e (br_f o1 (br_t c0 (br_f m0 (br_t s0 (br_t t0 (ya_pto (br_f l0 (br_t rfl hp))))))))), fun post hp => YT post 1 (fun n => br_t rt_64e (br_f o1 (br_t c0 (br_f m0 (br_t s0 (br_t t0 (ya_pto (br_f l0 (br_f (by decide) (ya_pto hp))))))))))⟩
        · exact ⟨3, _, Or.inr (Or.inr (Or.inr rfl)), fun post hp => XK post (br_f m0 (br_t s0 (br_f t0 hp))), A3, fun post hp => YT post 0 (fun n => br_t rt_64e (br_f o1 (br_t c0 (br_f m0 (br_t s0 (br_f t0 (br_t rfl hp))))))), fun post hp => YT post 1 (fun n => br_t rt_64e (br_f o1 (br_t c0 (br_f m0 (br_t s0 (br_f t0 (br_f (by decide) hp)))))))⟩
      · exact ⟨3, _, Or.inr (Or.inr (Or.inr rfl)), fun post hp => XK post (br_f m0 (br_f s0 hp)), A3, fun post hp => YT post 0 (fun n => br_t rt_64e (br_f o1 (br_t c0 (br_f m0 (br_f s0 (br_t rfl hp)))))), fun post hp => YT post 1 (fun n => br_t rt_64e (br_f o1 (br_t c0 (br_f m0 (br_f s0 (br_f (by decide) hp))))))⟩
    · have c1 : ¬ rt_b (rt_fo (rt_ca sd dl lo la rx) (fun s => (ta (la s).toNatClampNeg + rr) + rt_rw ms sr mr rm) nx).1 = 0 := by rw [rt_fo_1 hi hi1]; decide
      refine ⟨1, (rt_fo (rt_ca sd dl lo la rx) (fun s => (ta (la s).toNatClampNeg + rr) + rt_rw ms sr mr rm) nx).2, Or.inr (Or.inl rfl), fun post hp => ?_, fun post hp => br_f (by decide) (br_f (by decide) (br_t rfl (xa_re hx hL hp))), fun post hp => YT post 0 (fun n => br_t rt_64e (br_f o1 (br_f c1 (br_t rfl hp)))), fun post hp => YT post 1 (fun n => br_t rt_64e (br_f o1 (br_f c1 (br_f (by decide) hp))))⟩
      unfold wpX_timerKind
      exact xa_lo hx (fun k hk e => br_t (nI_pos' (by omega)) (xa_lc hx (fun k hk e => br_f (nI_pos (by omega)) hp) (fun z => by rw [z i hi] at hi1; exact absurd hi1 (by decide)))) oz
end
end
section
/-! one transmission, and sending, in lockstep -/
section
variable {ir nw cw ss ct sa ms sr rv mr rx rr am tp pc ps ur rt ds un tl ro lm : Int32} {wr nx tc rm sh rp : Nat} {bs re sd la dl lo ep ts fl ta : Nat → Int32} {ry hr dc : Int32} {rb mk aa ax ap : Nat → Int32} {j : Nat}
theorem xb_trA {P : SX → Prop} (ht : tc < 256) (hj : j < 64) (hw : j < wr) (h64 : wr ≤ 64) (h0 : 0 < sd j) (h1 : sa = 0 → P (ir, nw, cw, ss, ct, sa, nI wr, nI nx, nI (tc + 1), ms, sr, rv, mr, rx, rr, nI rm, nI sh, am, tp, pc, ps, ur, nI rp, rt + 1, ds, un, tl, ro, lm, bs, re, upd sd j (sd j + 1), upd la j (nI tc), dl, upd lo j 0, ep, upd ts tc (nI j), upd fl tc 512, upd ta tc nw)) (h2 : ¬ sa = 0 → P (ir, nw, cw, ss, ct, sa, nI wr, nI nx, nI (tc + 1), ms, sr, rv, mr, rx, rr, nI rm, nI sh, am, tp, pc, ps, ur + 1, nI rp, rt + 1, ds, un, tl, ro, lm, bs, re, upd sd j (sd j + 1), upd la j (nI tc), dl, upd lo j 0, upd ep j (ep j + 1), upd ts tc (nI j), upd fl tc 512, upd ta tc nw)) : wpX_transmit P (ir, nw, cw, ss, ct, sa, nI wr, nI nx, nI tc, ms, sr, rv, mr, rx, rr, nI rm, nI sh, am, tp, pc, ps, ur, nI rp, rt, ds, un, tl, ro, lm, bs, re, sd, la, dl, lo, ep, ts, fl, ta) (nI j) := by
  refine br_f (nI_ge (b := 256) ht (by decide)) (br_f (nI_pos (by omega)) (br_t (nI_lt hw (by omega)) ⟨rt_in hj, br_f (by rw [rt_cp (by omega)]; exact Int32.not_le.mpr h0) ?_⟩))
  refine nm_r (nI_1 tc) ⟨rt_i2 ht, nm_r (rt_ua ht) ⟨rt_i2 ht, nm_r (rt_ua ht) (br_f (by decide) ?_)⟩⟩
  refine ⟨rt_i2 ht, nm_r (rt_ua ht) ⟨rt_in hj, rt_in hj, nm_r (e' := upd sd j (sd j + 1)) (by rw [rt_ua (by omega), rt_cp (by omega)]) ⟨rt_in hj, nm_r (rt_ua (by omega)) (br_f (by decide) ?_)⟩⟩⟩
  refine ⟨rt_in hj, nm_r (e' := upd lo j 0) (by rw [rt_n0, rt_ua (by omega)]) (nm_e (br_c h1 (fun z => ⟨rt_in hj, rt_in hj, nm_r (e' := upd ep j (ep j + 1)) (by rw [rt_ua (by omega), rt_cp (by omega)]) (nm_e (h2 z))⟩)))⟩
theorem xb_trN {P : SX → Prop} (ht : tc < 256) (hj : nx < 64) (hw : nx < wr) (h64 : wr ≤ 64) (h0 : sd nx = 0) (h1 : P (ir, nw, cw, ss, ct, sa, nI wr, nI (nx + 1), nI (tc + 1), ms, sr, rv, mr, rx, rr, nI rm, nI sh, nw, tp, pc, ps, ur, nI rp, rt, ds, un, tl, ro, lm, bs, re, upd sd nx (sd nx + 1), upd la nx (nI tc), dl, lo, ep, upd ts tc (nI nx), upd fl tc 0, upd ta tc nw)) : wpX_transmit P (ir, nw, cw, ss, ct, sa, nI wr, nI nx, nI tc, ms, sr, rv, mr, rx, rr, nI rm, nI sh, am, tp, pc, ps, ur, nI rp, rt, ds, un, tl, ro, lm, bs, re, sd, la, dl, lo, ep, ts, fl, ta) (nI nx) := by
  refine br_f (nI_ge (b := 256) ht (by decide)) (br_f (nI_pos (by omega)) (br_t (nI_lt hw (by omega)) ⟨rt_in hj, br_t (by rw [rt_cp (by omega), h0]; decide) ?_⟩))
  refine nm_r (nI_1 tc) ⟨rt_i2 ht, nm_r (rt_ua ht) ⟨rt_i2 ht, nm_r (rt_ua ht) (br_t rfl ?_)⟩⟩
  exact ⟨rt_i2 ht, nm_r (rt_ua ht) ⟨rt_in hj, rt_in hj, nm_r (e' := upd sd nx (sd nx + 1)) (by rw [rt_ua (by omega), rt_cp (by omega)]) ⟨rt_in hj, nm_r (rt_ua (by omega)) (br_t rfl (nm_r (nI_1 nx) h1))⟩⟩⟩
theorem yb_trA {P : Int32 → SY → Prop} (ht : tc < 256) (hj : j < 64) (h0 : 0 < sd j) (h1 : sa = 0 → P (nI tc) (ir, nI wr, nI (tc + 1), nw, cw, ss, ct, sa, nI nx, sr, rv, mr, ry, rr, nI rm, nI sh, am, pc, ps, ur, nI rp, rt + 1, ds, un, tl, ro, lm, dc, ms, ms, hr, tp, bs, rb, re, upd sd j (sd j + 1), upd la j (nI tc), dl, upd lo j 0, ep, mk, upd ts tc (nI j), upd ta tc nw, upd aa tc 0, upd ax tc 1, upd ap tc 0)) (h2 : ¬ sa = 0 → P (nI tc) (ir, nI wr, nI (tc + 1), nw, cw, ss, ct, sa, nI nx, sr, rv, mr, ry, rr, nI rm, nI sh, am, pc, ps, ur + 1, nI rp, rt + 1, ds, un, tl, ro, lm, dc, ms, ms, hr, tp, bs, rb, re, upd sd j (sd j + 1), upd la j (nI tc), dl, upd lo j 0, upd ep j (ep j + 1), mk, upd ts tc (nI j), upd ta tc nw, upd aa tc 0, upd ax tc 1, upd ap tc 0)) : wpY_transmit P (ir, nI wr, nI tc, nw, cw, ss, ct, sa, nI nx, sr, rv, mr, ry, rr, nI rm, nI sh, am, pc, ps, ur, nI rp, rt, ds, un, tl, ro, lm, dc, ms, ms, hr, tp, bs, rb, re, sd, la, dl, lo, ep, mk, ts, ta, aa, ax, ap) (nI j) := by
  refine br_f (nI_ge (b := 256) ht (by decide)) (br_f (nI_pos (by omega)) (br_t (nI_lt (b := 64) hj (by decide)) ?_))
  refine nm_r (nI_1 tc) ⟨rt_i2 ht, nm_r (rt_ua ht) ⟨rt_i2 ht, nm_r (rt_ua ht) ⟨rt_i2 ht, nm_r (e' := upd aa tc 0) (by rw [rt_n0, rt_ua ht]) ⟨rt_in hj, br_f (by rw [rt_cp (by omega)]; exact Int32.not_le.mpr h0) ?_⟩⟩⟩⟩
  refine ⟨rt_i2 ht, nm_r (e' := upd ax tc 1) (by rw [rt_n1, rt_ua ht]) ⟨rt_i2 ht, nm_r (e' := upd ap tc 0) (by rw [rt_n0, rt_ua ht]) ⟨rt_in hj, rt_in hj, nm_r (e' := upd sd j (sd j + 1)) (by rw [rt_ua (by omega), rt_cp (by omega)]) ⟨rt_in hj, nm_r (rt_ua (by omega)) ⟨rt_i2 ht, br_f (by rw [rt_cp ht, pk_us]; decide) ?_⟩⟩⟩⟩⟩
  refine ⟨rt_in hj, nm_r (e' := upd lo j 0) (by rw [rt_n0, rt_ua (by omega)]) (nm_e (br_c h1 (fun z => ⟨rt_in hj, rt_in hj, nm_r (e' := upd ep j (ep j + 1)) (by rw [rt_ua (by omega), rt_cp (by omega)]) (nm_e (h2 z))⟩)))⟩
theorem yb_trN {P : Int32 → SY → Prop} (ht : tc < 256) (hj : nx < 64) (h0 : sd nx = 0) (h1 : P (nI tc) (ir, nI wr, nI (tc + 1), nw, cw, ss, ct, sa, nI (nx + 1), sr, rv, mr, ry, rr, nI rm, nI sh, nw, pc, ps, ur, nI rp, rt, ds, un, tl, ro, lm, dc, ms, ms, hr, tp, bs, rb, re, upd sd nx (sd nx + 1), upd la nx (nI tc), dl, lo, ep, mk, upd ts tc (nI nx), upd ta tc nw, upd aa tc 0, upd ax tc 0, upd ap tc 0)) : wpY_transmit P (ir, nI wr, nI tc, nw, cw, ss, ct, sa, nI nx, sr, rv, mr, ry, rr, nI rm, nI sh, am, pc, ps, ur, nI rp, rt, ds, un, tl, ro, lm, dc, ms, ms, hr, tp, bs, rb, re, sd, la, dl, lo, ep, mk, ts, ta, aa, ax, ap) (nI nx) := by
  refine br_f (nI_ge (b := 256) ht (by decide)) (br_f (nI_pos (by omega)) (br_t (nI_lt (b := 64) hj (by decide)) ?_))
  refine nm_r (nI_1 tc) ⟨rt_i2 ht, nm_r (rt_ua ht) ⟨rt_i2 ht, nm_r (rt_ua ht) ⟨rt_i2 ht, nm_r (e' := upd aa tc 0) (by rw [rt_n0, rt_ua ht]) ⟨rt_in hj, br_t (by rw [rt_cp (by omega), h0]; decide) ?_⟩⟩⟩⟩
  exact ⟨rt_i2 ht, nm_r (e' := upd ax tc 0) (by rw [rt_n0, rt_ua ht]) ⟨rt_i2 ht, nm_r (e' := upd ap tc 0) (by rw [rt_n0, rt_ua ht]) ⟨rt_in hj, rt_in hj, nm_r (e' := upd sd nx (sd nx + 1)) (by rw [rt_ua (by omega), rt_cp (by omega)]) ⟨rt_in hj, nm_r (rt_ua (by omega)) ⟨rt_i2 ht, br_t (by rw [rt_cp ht, pk_us]) (nm_r (nI_1 nx) h1)⟩⟩⟩⟩⟩
theorem la_tr (hI : rt_IV nx wr tc rp sh rm rx ry hr dc bs re sd la dl lo ts fl rb aa ax ap) (ht : tc < 256) (hj : j ≤ nx) (hw : j < wr) : ∃ (u : SX) (v : SY), (∀ P : SX → Prop, P u → wpX_transmit P (ir, nw, cw, ss, ct, sa, nI wr, nI nx, nI tc, ms, sr, rv, mr, rx, rr, nI rm, nI sh, am, tp, pc, ps, ur, nI rp, rt, ds, un, tl, ro, lm, bs, re, sd, la, dl, lo, ep, ts, fl, ta) (nI j)) ∧ (∀ P : Int32 → SY → Prop, P (nI tc) v → wpY_transmit P (ir, nI wr, nI tc, nw, cw, ss, ct, sa, nI nx, sr, rv, mr, ry, rr, nI rm, nI sh, am, pc, ps, ur, nI rp, rt, ds, un, tl, ro, lm, dc, ms, ms, hr, tp, bs, rb, re, sd, la, dl, lo, ep, mk, ts, ta, aa, ax, ap) (nI j)) ∧ rt_RL (tc + 1) u v := by
  obtain ⟨⟨n1, n2, n3, n4, n5, n6⟩, hS, hZl, hZd, hZr, hL, hT, hK, hF, hB, hC⟩ := hI
  rcases Nat.lt_or_ge j nx with h | h
  · have h0 := rt_IS_pos hS n3 h
    have hN : rt_IN nx wr (tc + 1) rp sh rm := ⟨n1, n2, by omega, n4, n5, n6⟩
    have I2 : rt_IV nx wr (tc + 1) rp sh rm rx ry hr dc bs re (upd sd j (sd j + 1)) (upd la j (nI tc)) dl (upd lo j 0) (upd ts tc (nI j)) (upd fl tc 512) rb (upd aa tc 0) (upd ax tc 1) (upd ap tc 0) :=
      ⟨hN, rt_IS_a hS h, rt_IZ_0 hZl j, hZd, hZr, rt_IL_u hL j ht, rt_IT_u hT h, hK, rt_IF_n hF ⟨false, true, false, rfl, rfl, rfl, by decide⟩, hB, hC⟩
    by_cases z : sa = 0
    · exact ⟨_, _, fun P hp => xb_trA ht (by omega) hw n2 h0 (fun _ => hp) (fun y => absurd z y), fun P hp => yb_trA ht (by omega) h0 (fun _ => hp) (fun y => absurd z y), rt_RLi I2⟩
    · exact ⟨_, _, fun P hp => xb_trA ht (by omega) hw n2 h0 (fun y => absurd y z) (fun _ => hp), fun P hp => yb_trA ht (by omega) h0 (fun y => absurd y z) (fun _ => hp), rt_RLi I2⟩
  · obtain rfl : j = nx := by omega
    have h0 := hS.2 j (Nat.le_refl j)
    have I2 : rt_IV (j + 1) wr (tc + 1) rp sh rm rx ry hr dc bs re (upd sd j (sd j + 1)) (upd la j (nI tc)) dl lo (upd ts tc (nI j)) (upd fl tc 0) rb (upd aa tc 0) (upd ax tc 0) (upd ap tc 0) :=
      ⟨⟨by omega, n2, by omega, n4, n5, n6⟩, rt_IS_n hS, rt_IZ_m hZl (by omega), rt_IZ_m hZd (by omega), rt_IZ_m hZr (by omega), rt_IL_u hL j ht, rt_IT_u (rt_IT_m hT (by omega)) (by omega), hK, rt_IF_n hF ⟨false, false, false, rfl, rfl, rfl, by decide⟩, hB, hC⟩
    exact ⟨_, _, fun P hp => xb_trN ht (by omega) hw n2 h0 hp, fun P hp => yb_trN ht (by omega) h0 hp, rt_RLi I2⟩
theorem xb_trZ {P : SX → Prop} {x : Int32} (h : tc = 256 ∨ x < 0) (hp : P (ir, nw, cw, ss, ct, sa, nI wr, nI nx, nI tc, ms, sr, rv, mr, rx, rr, nI rm, nI sh, am, tp, pc, ps, ur, nI rp, rt, ds, un, tl, ro, lm, bs, re, sd, la, dl, lo, ep, ts, fl, ta)) : wpX_transmit P (ir, nw, cw, ss, ct, sa, nI wr, nI nx, nI tc, ms, sr, rv, mr, rx, rr, nI rm, nI sh, am, tp, pc, ps, ur, nI rp, rt, ds, un, tl, ro, lm, bs, re, sd, la, dl, lo, ep, ts, fl, ta) x := by
  by_cases z : (256 : Int32) ≤ nI tc
  · exact br_t z hp
  · refine br_f z (br_t (h.elim (fun e => ?_) id) hp)
    rw [e] at z; exact absurd (by decide) z
theorem yb_trZ {P : Int32 → SY → Prop} {x : Int32} (h : tc = 256 ∨ x < 0) (hp : P (-1) (ir, nI wr, nI tc, nw, cw, ss, ct, sa, nI nx, sr, rv, mr, ry, rr, nI rm, nI sh, am, pc, ps, ur, nI rp, rt, ds, un, tl, ro, lm, dc, ms, ms, hr, tp, bs, rb, re, sd, la, dl, lo, ep, mk, ts, ta, aa, ax, ap)) : wpY_transmit P (ir, nI wr, nI tc, nw, cw, ss, ct, sa, nI nx, sr, rv, mr, ry, rr, nI rm, nI sh, am, pc, ps, ur, nI rp, rt, ds, un, tl, ro, lm, dc, ms, ms, hr, tp, bs, rb, re, sd, la, dl, lo, ep, mk, ts, ta, aa, ax, ap) x := by
  by_cases z : (256 : Int32) ≤ nI tc
  · exact br_t z hp
  · refine br_f z (br_t (h.elim (fun e => ?_) id) hp)
    rw [e] at z; exact absurd (by decide) z
theorem yb_sc_l {post : SY → Prop} {J2 : Int32 → Int32 → Int32 → Int32 → Int32 → Int32 → Int32 → Int32 → Int32 → Int32 → Int32 → Int32 → Int32 → Int32 → Int32 → Int32 → Int32 → Int32 → Int32 → Int32 → Int32 → Int32 → Int32 → Int32 → Int32 → Int32 → Int32 → Int32 → Int32 → Int32 → Int32 → Int32 → Int32 → (Nat → Int32) → (Nat → Int32) → (Nat → Int32) → (Nat → Int32) → (Nat → Int32) → (Nat → Int32) → (Nat → Int32) → (Nat → Int32) → (Nat → Int32) → (Nat → Int32) → (Nat → Int32) → (Nat → Int32) → (Nat → Int32) → (Nat → Int32) → Prop} {x1 : Int32} (hj : ∀ j, j < 64 → ¬ lo j = 0 → (∀ i, i < j → lo i = 0) → wY_send_61 post J2 x1 (nI j) ir (nI wr) (nI tc) nw cw ss ct sa (nI nx) sr rv mr ry rr (nI rm) (nI sh) am pc ps ur (nI rp) rt ds un tl ro lm dc ms ms hr tp bs rb re sd la dl lo ep mk ts ta aa ax ap) (hn : (∀ i, i < 64 → lo i = 0) → wY_send_61 post J2 x1 (-1) ir (nI wr) (nI tc) nw cw ss ct sa (nI nx) sr rv mr ry rr (nI rm) (nI sh) am pc ps ur (nI rp) rt ds un tl ro lm dc ms ms hr tp bs rb re sd la dl lo ep mk ts ta aa ax ap) : ∀ d s, s + d = 64 → (∀ i, i < s → lo i = 0) → wY_send_35 post J2 x1 (-1) ir (nI wr) (nI tc) nw cw ss ct sa (nI nx) sr rv mr ry rr (nI rm) (nI sh) am pc ps ur (nI rp) rt ds un tl ro lm dc ms ms hr tp bs rb re sd la dl lo ep mk ts ta aa ax ap (d + 1) (nI s) := by
  intro d
  induction d with
  | zero =>
    intro s h hz
    obtain rfl : s = 64 := by omega
    exact br_t rt_64e (hn hz)
  | succ d ih =>
    intro s h hz
    exact br_f (rt_64 s (by omega)) ⟨rt_in (by omega), rt_bz (by omega) (fun y => nm_r (nI_1 s) (ih (s + 1) (by omega) (lt_s hz y))) (fun y => hj s (by omega) y hz)⟩
theorem yb_sc {post : SY → Prop} {J2 : Int32 → Int32 → Int32 → Int32 → Int32 → Int32 → Int32 → Int32 → Int32 → Int32 → Int32 → Int32 → Int32 → Int32 → Int32 → Int32 → Int32 → Int32 → Int32 → Int32 → Int32 → Int32 → Int32 → Int32 → Int32 → Int32 → Int32 → Int32 → Int32 → Int32 → Int32 → Int32 → Int32 → (Nat → Int32) → (Nat → Int32) → (Nat → Int32) → (Nat → Int32) → (Nat → Int32) → (Nat → Int32) → (Nat → Int32) → (Nat → Int32) → (Nat → Int32) → (Nat → Int32) → (Nat → Int32) → (Nat → Int32) → (Nat → Int32) → (Nat → Int32) → Prop} {x1 : Int32} (hj : ∀ j, j < 64 → ¬ lo j = 0 → (∀ i, i < j → lo i = 0) → wY_send_61 post J2 x1 (nI j) ir (nI wr) (nI tc) nw cw ss ct sa (nI nx) sr rv mr ry rr (nI rm) (nI sh) am pc ps ur (nI rp) rt ds un tl ro lm dc ms ms hr tp bs rb re sd la dl lo ep mk ts ta aa ax ap) (hn : (∀ i, i < 64 → lo i = 0) → wY_send_61 post J2 x1 (-1) ir (nI wr) (nI tc) nw cw ss ct sa (nI nx) sr rv mr ry rr (nI rm) (nI sh) am pc ps ur (nI rp) rt ds un tl ro lm dc ms ms hr tp bs rb re sd la dl lo ep mk ts ta aa ax ap) : ∃ n, wY_send_35 post J2 x1 (-1) ir (nI wr) (nI tc) nw cw ss ct sa (nI nx) sr rv mr ry rr (nI rm) (nI sh) am pc ps ur (nI rp) rt ds un tl ro lm dc ms ms hr tp bs rb re sd la dl lo ep mk ts ta aa ax ap n 0 :=
  ⟨65, yb_sc_l hj hn 64 0 (by omega) lt_0⟩
end
theorem la_sd_l : ∀ d : Nat, ∀ (wr nx tc rm sh rp : Nat) (ir nw cw ss ct sa ms sr rv mr rx rr am tp pc ps ur rt ds un tl ro lm ry hr dc : Int32) (bs re sd la dl lo ep ts fl ta rb mk aa ax ap : Nat → Int32), rt_IV nx wr tc rp sh rm rx ry hr dc bs re sd la dl lo ts fl rb aa ax ap → d + tc = 256 → ∀ i : Nat, i + d ≤ 256 → ∃ (t' : Nat) (u : SX) (v : SY), (∀ (P : SX → Prop) (n : Nat), P u → d < n → wX_sendAllowed_9 P n (nI d) ir nw cw ss ct sa (nI wr) (nI nx) (nI tc) ms sr rv mr rx rr (nI rm) (nI sh) am tp pc ps ur (nI rp) rt ds un tl ro lm bs re sd la dl lo ep ts fl ta) ∧ (∀ (P : SY → Prop) (n : Nat), P v → 256 - i < n → wY_send_2 P n (nI i) ir (nI wr) (nI tc) nw cw ss ct sa (nI nx) sr rv mr ry rr (nI rm) (nI sh) am pc ps ur (nI rp) rt ds un tl ro lm dc ms ms hr tp bs rb re sd la dl lo ep mk ts ta aa ax ap) ∧ rt_RL t' u v := by
  intro d
  induction d with
  | zero =>
    intro wr nx tc rm sh rp ir nw cw ss ct sa ms sr rv mr rx rr am tp pc ps ur rt ds un tl ro lm ry hr dc bs re sd la dl lo ep ts fl ta rb mk aa ax ap hI ht i hi
    refine ⟨tc, (ir, nw, cw, ss, ct, sa, nI wr, nI nx, nI tc, ms, sr, rv, mr, rx, rr, nI rm, nI sh, am, tp, pc, ps, ur, nI rp, rt, ds, un, tl, ro, lm, bs, re, sd, la, dl, lo, ep, ts, fl, ta), (ir, nI wr, nI tc, nw, cw, ss, ct, sa, nI nx, sr, rv, mr, ry, rr, nI rm, nI sh, am, pc, ps, ur, nI rp, rt, ds, un, tl, ro, lm, dc, ms, ms, hr, tp, bs, rb, re, sd, la, dl, lo, ep, mk, ts, ta, aa, ax, ap), fun P n hp hn => ?_, fun P n hp hn => ?_, rt_RLi hI⟩
    · obtain ⟨m, rfl⟩ : ∃ m, n = m + 1 := ⟨n - 1, by omega⟩
      exact br_t (by decide) hp
    · obtain ⟨m, rfl⟩ : ∃ m, n = m + 1 := ⟨n - 1, by omega⟩
      exact pk_le 256 i (fun _ => hp) (fun _ => pk_le 256 tc (fun _ => hp) (fun z => by omega))
  | succ d ih =>
    intro wr nx tc rm sh rp ir nw cw ss ct sa ms sr rv mr rx rr am tp pc ps ur rt ds un tl ro lm ry hr dc bs re sd la dl lo ep ts fl ta rb mk aa ax ap hI ht i hi
    have hI0 := hI
    obtain ⟨⟨n1, n2, n3, n4, n5, n6⟩, hS, hZl, hZd, hZr, hL, hT, hK, hF, hB, hC⟩ := hI0
    have hx : nx ≤ 64 := by omega
    have i1 : ¬ (256 : Int32) ≤ nI i := nI_ge (b := 256) (by omega) (by decide)
    have t1 : ¬ (256 : Int32) ≤ nI tc := nI_ge (b := 256) (by omega) (by decide)
    have d1 : ¬ nI (d + 1) ≤ 0 := nI_nle (by omega) (by omega)
    by_cases hc : nI (rt_cn (rt_fl sd dl lo) nx) < cw
    · -- one more goes out, at j; or nothing is left to send
      have GO : ∀ j, j ≤ nx → j < wr → ((∀ (P : SX → Prop) (n : Nat), wpX_inflight (fun r => ((r < cw → wpX_transmit (fun u => match u with | (ir_, nw_, cw_, ss_, ct_, sa_, wr_, nx_, tc_, ms_, sr_, rv_, mr_, rx_, rr_, rm_, sh_, am_, tp_, pc_, ps_, ur_, rp_, rt_, ds_, un_, tl_, ro_, lm_, bs_, re_, sd_, la_, dl_, lo_, ep_, ts_, fl_, ta_) => (∀ x1_125 : Int32, x1_125 = nI (d + 1) + (-1) → wX_sendAllowed_9 P n x1_125 ir_ nw_ cw_ ss_ ct_ sa_ wr_ nx_ tc_ ms_ sr_ rv_ mr_ rx_ rr_ rm_ sh_ am_ tp_ pc_ ps_ ur_ rp_ rt_ ds_ un_ tl_ ro_ lm_ bs_ re_ sd_ la_ dl_ lo_ ep_ ts_ fl_ ta_)) (ir, nw, cw, ss, ct, sa, nI wr, nI nx, nI tc, ms, sr, rv, mr, rx, rr, nI rm, nI sh, am, tp, pc, ps, ur, nI rp, rt, ds, un, tl, ro, lm, bs, re, sd, la, dl, lo, ep, ts, fl, ta) (nI j)) ∧ (¬ r < cw → P (ir, nw, cw, ss, ct, sa, nI wr, nI nx, nI tc, ms, sr, rv, mr, rx, rr, nI rm, nI sh, am, tp, pc, ps, ur, nI rp, rt, ds, un, tl, ro, lm, bs, re, sd, la, dl, lo, ep, ts, fl, ta)))) (ir, nw, cw, ss, ct, sa, nI wr, nI nx, nI tc, ms, sr, rv, mr, rx, rr, nI rm, nI sh, am, tp, pc, ps, ur, nI rp, rt, ds, un, tl, ro, lm, bs, re, sd, la, dl, lo, ep, ts, fl, ta) → wX_sendAllowed_9 P (n + 1) (nI (d + 1)) ir nw cw ss ct sa (nI wr) (nI nx) (nI tc) ms sr rv mr rx rr (nI rm) (nI sh) am tp pc ps ur (nI rp) rt ds un tl ro lm bs re sd la dl lo ep ts fl ta)) → ((∀ (P : SY → Prop) (n : Nat), wY_send_81 P (wY_send_2 P n) (nI i) (nI j) ir (nI wr) (nI tc) nw cw ss ct sa (nI nx) sr rv mr ry rr (nI rm) (nI sh) am pc ps ur (nI rp) rt ds un tl ro lm dc ms ms hr tp bs rb re sd la dl lo ep mk ts ta aa ax ap → wY_send_2 P (n + 1) (nI i) ir (nI wr) (nI tc) nw cw ss ct sa (nI nx) sr rv mr ry rr (nI rm) (nI sh) am pc ps ur (nI rp) rt ds un tl ro lm dc ms ms hr tp bs rb re sd la dl lo ep mk ts ta aa ax ap)) → ∃ (t' : Nat) (u : SX) (v : SY), (∀ (P : SX → Prop) (n : Nat), P u → d + 1 < n → wX_sendAllowed_9 P n (nI (d + 1)) ir nw cw ss ct sa (nI wr) (nI nx) (nI tc) ms sr rv mr rx rr (nI rm) (nI sh) am tp pc ps ur (nI rp) rt ds un tl ro lm bs re sd la dl lo ep ts fl ta) ∧ (∀ (P : SY → Prop) (n : Nat), P v → 256 - i < n → wY_send_2 P n (nI i) ir (nI wr) (nI tc) nw cw ss ct sa (nI nx) sr rv mr ry rr (nI rm) (nI sh) am pc ps ur (nI rp) rt ds un tl ro lm dc ms ms hr tp bs rb re sd la dl lo ep mk ts ta aa ax ap) ∧ rt_RL t' u v := by
        intro j hj hw gX gY
        obtain ⟨u1, v1, hX, hY, R⟩ := la_tr (ir := ir) (nw := nw) (cw := cw) (ss := ss) (ct := ct) (sa := sa) (ms := ms) (sr := sr) (rv := rv) (mr := mr) (rr := rr) (am := am) (tp := tp) (pc := pc) (ps := ps) (ur := ur) (rt := rt) (ds := ds) (un := un) (tl := tl) (ro := ro) (lm := lm) (ep := ep) (ta := ta) (mk := mk) hI (by omega) hj hw
        obtain ⟨wr', nx', rm', sh', rp', ir', nw', cw', ss', ct', sa', ms', sr', rv', mr', rx', rr', am', tp', pc', ps', ur', rt', ds', un', tl', ro', lm', ry', hr', dc', bs', re', sd', la', dl', lo', ep', ts', fl', ta', rb', mk', aa', ax', ap', rfl, rfl, hI'⟩ := R
        obtain ⟨t', u', v', kX, kY, R'⟩ := ih wr' nx' (tc + 1) rm' sh' rp' ir' nw' cw' ss' ct' sa' ms' sr' rv' mr' rx' rr' am' tp' pc' ps' ur' rt' ds' un' tl' ro' lm' ry' hr' dc' bs' re' sd' la' dl' lo' ep' ts' fl' ta' rb' mk' aa' ax' ap' hI' (by omega) (i + 1) (by omega)
        refine ⟨t', u', v', fun P n hp hn => ?_, fun P n hp hn => ?_, R'⟩
        · obtain ⟨m, rfl⟩ : ∃ m, n = m + 1 := ⟨n - 1, by omega⟩
          exact gX P m (xa_infl hx (br_t hc (hX _ (nm_r (pk_m1 d) (kX P m hp (by omega))))))
        · obtain ⟨m, rfl⟩ : ∃ m, n = m + 1 := ⟨n - 1, by omega⟩
          exact gY P m (br_t (nI_pos' (by omega)) (hY _ (nm_r (nI_1 i) (kY P m hp (by omega)))))
      rcases rt_first (rt_nz lo) nx with hz | ⟨j, hj, hj1, hj2⟩
      · have hz' : ∀ s, s < nx → lo s = 0 := fun s hs => rt_nz_0 (hz s hs)
        have hza : ∀ s, lo s = 0 := fun s => (Nat.lt_or_ge s nx).elim (hz' s) (hZl s)
        rcases Nat.lt_or_ge nx wr with hw | hw
        · refine GO nx (Nat.le_refl _) hw (fun P n h => ?_) (fun P n h => ?_)
          · exact br_f d1 (xa_next hx n2 (fun j hj y _ => absurd (hz' j hj) y) (fun _ y => by omega) (fun _ _ => br_f (nI_pos (by omega)) h))
          · exact br_f i1 (br_f t1 (ya_infl hx hS (br_t hc (yb_sc (fun j _ y _ => absurd (hza j) y) (fun _ => br_f (by decide) (br_f (nI_ge hw (by omega)) h))))))
        · refine ⟨tc, (ir, nw, cw, ss, ct, sa, nI wr, nI nx, nI tc, ms, sr, rv, mr, rx, rr, nI rm, nI sh, am, tp, pc, ps, ur, nI rp, rt, ds, un, tl, ro, lm, bs, re, sd, la, dl, lo, ep, ts, fl, ta), (ir, nI wr, nI tc, nw, cw, ss, ct, sa, nI nx, sr, rv, mr, ry, rr, nI rm, nI sh, am, pc, ps, ur, nI rp, rt, ds, un, tl, ro, lm, dc, ms, ms, hr, tp, bs, rb, re, sd, la, dl, lo, ep, mk, ts, ta, aa, ax, ap), fun P n hp hn => ?_, fun P n hp hn => ?_, rt_RLi hI⟩
          · obtain ⟨m, rfl⟩ : ∃ m, n = m + 1 := ⟨n - 1, by omega⟩
            exact br_f d1 (xa_next hx n2 (fun j hj y _ => absurd (hz' j hj) y) (fun _ y => br_t (by decide) hp) (fun _ y => by omega))
          · obtain ⟨m, rfl⟩ : ∃ m, n = m + 1 := ⟨n - 1, by omega⟩
            exact br_f i1 (br_f t1 (ya_infl hx hS (br_t hc (yb_sc (fun j _ y _ => absurd (hza j) y) (fun _ => br_f (by decide) (br_t (nI_le hw (by omega)) (br_f (by decide) hp)))))))
      · have hj0 : ¬ lo j = 0 := rt_nz_1 hj1
        have hq : ∀ i, ¬ lo i = 0 → (∀ k, k < i → lo k = 0) → i = j := fun i a b => by
          rcases Nat.lt_trichotomy i j with g | g | g
          · exact absurd (rt_nz_0 (hj2 i g)) a
          · exact g
          · exact absurd (b j g) hj0
        refine GO j (by omega) (by omega) (fun P n h => ?_) (fun P n h => ?_)
        · exact br_f d1 (xa_next hx n2 (fun k _ y g => by rw [hq k y g]; exact br_f (nI_pos (by omega)) h) (fun z _ => absurd (z j hj) hj0) (fun z _ => absurd (z j hj) hj0))
        · exact br_f i1 (br_f t1 (ya_infl hx hS (br_t hc (yb_sc (fun k _ y g => by rw [hq k y g]; exact br_t (nI_pos' (by omega)) h) (fun z => absurd (z j (by omega)) hj0)))))
    · refine ⟨tc, (ir, nw, cw, ss, ct, sa, nI wr, nI nx, nI tc, ms, sr, rv, mr, rx, rr, nI rm, nI sh, am, tp, pc, ps, ur, nI rp, rt, ds, un, tl, ro, lm, bs, re, sd, la, dl, lo, ep, ts, fl, ta), (ir, nI wr, nI tc, nw, cw, ss, ct, sa, nI nx, sr, rv, mr, ry, rr, nI rm, nI sh, am, pc, ps, ur, nI rp, rt, ds, un, tl, ro, lm, dc, ms, ms, hr, tp, bs, rb, re, sd, la, dl, lo, ep, mk, ts, ta, aa, ax, ap), fun P n hp hn => ?_, fun P n hp hn => ?_, rt_RLi hI⟩
      · obtain ⟨m, rfl⟩ : ∃ m, n = m + 1 := ⟨n - 1, by omega⟩
        exact br_f d1 (xa_next hx n2 (fun j _ _ _ => br_f (nI_pos (by omega)) (xa_infl hx (br_f hc hp))) (fun _ _ => br_t (by decide) hp) (fun _ _ => br_f (nI_pos (by omega)) (xa_infl hx (br_f hc hp))))
      · obtain ⟨m, rfl⟩ : ∃ m, n = m + 1 := ⟨n - 1, by omega⟩
        exact br_f i1 (br_f t1 (ya_infl hx hS (br_f hc hp)))
section
variable {ir nw cw ss ct sa ms sr rv mr rx rr am tp pc ps ur rt ds un tl ro lm : Int32} {wr nx tc rm sh rp : Nat} {bs re sd la dl lo ep ts fl ta : Nat → Int32} {ry hr dc : Int32} {rb mk aa ax ap : Nat → Int32}
theorem la_sd (hI : rt_IV nx wr tc rp sh rm rx ry hr dc bs re sd la dl lo ts fl rb aa ax ap) : ∃ (t' : Nat) (u : SX) (v : SY), (∀ P : SX → Prop, P u → wpX_sendAllowed P (ir, nw, cw, ss, ct, sa, nI wr, nI nx, nI tc, ms, sr, rv, mr, rx, rr, nI rm, nI sh, am, tp, pc, ps, ur, nI rp, rt, ds, un, tl, ro, lm, bs, re, sd, la, dl, lo, ep, ts, fl, ta)) ∧ (∀ P : SY → Prop, P v → wpY_send P (ir, nI wr, nI tc, nw, cw, ss, ct, sa, nI nx, sr, rv, mr, ry, rr, nI rm, nI sh, am, pc, ps, ur, nI rp, rt, ds, un, tl, ro, lm, dc, ms, ms, hr, tp, bs, rb, re, sd, la, dl, lo, ep, mk, ts, ta, aa, ax, ap)) ∧ rt_RL t' u v := by
  have n3 : tc ≤ 256 := hI.1.2.2.1
  obtain ⟨t', u, v, kX, kY, R⟩ := la_sd_l (256 - tc) wr nx tc rm sh rp ir nw cw ss ct sa ms sr rv mr rx rr am tp pc ps ur rt ds un tl ro lm ry hr dc bs re sd la dl lo ep ts fl ta rb mk aa ax ap hI (by omega) 0 (by omega)
  exact ⟨t', u, v, fun P hp => nm_r (pk_sub (a := 256) n3) ⟨256 - tc + 1, kX P _ hp (by omega)⟩, fun P hp => ⟨257, kY P _ hp (by omega)⟩, R⟩
end
end
section
/-! episodes, undo, samples, growth: each alone; then the detection of losses in lockstep -/
section
variable {ir nw cw ss ct sa ms sr rv mr rx rr am tp pc ps ur rt ds un tl ro lm : Int32} {wr nx tc rm sh rp : Nat} {bs re sd la dl lo ep ts fl ta : Nat → Int32} {ry hr dc : Int32} {rb mk aa ax ap : Nat → Int32}
theorem xc_be_l {P : SX → Prop} (hp : P (ir, nw, cw, ss, ct, sa, nI wr, nI nx, nI tc, ms, sr, rv, mr, rx, rr, nI rm, nI sh, am, tp, pc, ps, ur, nI rp, rt, ds, un, tl, ro, lm, bs, re, sd, la, dl, lo, rt_zr ep 64, ts, fl, ta)) : ∀ d s, s + d = 64 → wX_beginEpisode_23 P ir nw cw ss ct sa (nI wr) (nI nx) (nI tc) ms sr rv mr rx rr (nI rm) (nI sh) am tp pc ps ur (nI rp) rt ds un tl ro lm (d + 1) (nI s) bs re sd la dl lo (rt_zr ep s) ts fl ta := by
  intro d
  induction d with
  | zero =>
    intro s h
    obtain rfl : s = 64 := by omega
    exact br_t rt_64e hp
  | succ d ih =>
    intro s h
    exact br_f (rt_64 s (by omega)) ⟨rt_in (by omega), nm_r (e' := rt_zr ep (s + 1)) (by rw [rt_ua (by omega)]; rfl) (nm_r (nI_1 s) (ih (s + 1) (by omega)))⟩
theorem xc_be {P : SX → Prop} (hp : P (ir, nw, cw, ss, ct, sa, nI wr, nI nx, nI tc, ms, sr, rv, mr, rx, rr, nI rm, nI sh, am, tp, cw, ss, 0, nI rp, rt, ds, un, tl, ro, lm, bs, re, sd, la, dl, lo, rt_zr ep 64, ts, fl, ta)) : wpX_beginEpisode P (ir, nw, cw, ss, ct, sa, nI wr, nI nx, nI tc, ms, sr, rv, mr, rx, rr, nI rm, nI sh, am, tp, pc, ps, ur, nI rp, rt, ds, un, tl, ro, lm, bs, re, sd, la, dl, lo, ep, ts, fl, ta) :=
  ⟨65, xc_be_l (pc := cw) (ps := ss) (ur := 0) hp 64 0 (by omega)⟩
theorem yc_be_l {P : SY → Prop} (hp : P (ir, nI wr, nI tc, nw, cw, ss, ct, sa, nI nx, sr, rv, mr, ry, rr, nI rm, nI sh, am, pc, ps, ur, nI rp, rt, ds, un, tl, ro, lm, dc, ms, ms, hr, tp, bs, rb, re, sd, la, dl, lo, rt_zr ep 64, mk, ts, ta, aa, ax, ap)) : ∀ d s, s + d = 64 → wY_episode_23 P ir (nI wr) (nI tc) nw cw ss ct sa (nI nx) sr rv mr ry rr (nI rm) (nI sh) am pc ps ur (nI rp) rt ds un tl ro lm dc ms ms hr tp (d + 1) (nI s) bs rb re sd la dl lo (rt_zr ep s) mk ts ta aa ax ap := by
  intro d
  induction d with
  | zero =>
    intro s h
    obtain rfl : s = 64 := by omega
    exact br_t rt_64e hp
  | succ d ih =>
    intro s h
    exact br_f (rt_64 s (by omega)) ⟨rt_in (by omega), nm_r (e' := rt_zr ep (s + 1)) (by rw [rt_ua (by omega)]; rfl) (nm_r (nI_1 s) (ih (s + 1) (by omega)))⟩
theorem yc_be {P : SY → Prop} (hp : P (ir, nI wr, nI tc, nw, cw, ss, ct, sa, nI nx, sr, rv, mr, ry, rr, nI rm, nI sh, am, cw, ss, 0, nI rp, rt, ds, un, tl, ro, lm, dc, ms, ms, hr, tp, bs, rb, re, sd, la, dl, lo, rt_zr ep 64, mk, ts, ta, aa, ax, ap)) : wpY_episode P (ir, nI wr, nI tc, nw, cw, ss, ct, sa, nI nx, sr, rv, mr, ry, rr, nI rm, nI sh, am, pc, ps, ur, nI rp, rt, ds, un, tl, ro, lm, dc, ms, ms, hr, tp, bs, rb, re, sd, la, dl, lo, ep, mk, ts, ta, aa, ax, ap) :=
  ⟨65, yc_be_l (pc := cw) (ps := ss) (ur := 0) hp 64 0 (by omega)⟩
theorem xc_un_l {P : SX → Prop} (hp : P (ir, nw, cw, ss, ct, sa, nI wr, nI nx, nI tc, ms, sr, rv, mr, rx, rr, nI rm, nI sh, am, tp, pc, ps, ur, nI rp, rt, ds, un + 1, tl, ro, lm, bs, re, sd, la, dl, rt_zr lo 64, ep, ts, fl, ta)) : ∀ d s, s + d = 64 → wX_undo_42 P ir nw cw ss ct sa (nI wr) (nI nx) (nI tc) ms sr rv mr rx rr (nI rm) (nI sh) am tp pc ps ur (nI rp) rt ds un tl ro lm (d + 1) (nI s) bs re sd la dl (rt_zr lo s) ep ts fl ta := by
  intro d
  induction d with
  | zero =>
    intro s h
    obtain rfl : s = 64 := by omega
    exact br_t rt_64e (nm_e hp)
  | succ d ih =>
    intro s h
    exact br_f (rt_64 s (by omega)) ⟨rt_in (by omega), nm_r (e' := rt_zr lo (s + 1)) (by rw [rt_ua (by omega), rt_n0]; rfl) (nm_r (nI_1 s) (ih (s + 1) (by omega)))⟩
theorem xc_un {P : SX → Prop} (hp : P (ir, nw, rt_mx cw pc, rt_mx ss ps, 0, 0, nI wr, nI nx, nI tc, ms, sr, rv, mr, rx, rr, nI rm, nI sh, am, tp, pc, ps, ur, nI rp, rt, ds, un + 1, tl, ro, lm, bs, re, sd, la, dl, rt_zr lo 64, ep, ts, fl, ta)) : wpX_undo P (ir, nw, cw, ss, ct, sa, nI wr, nI nx, nI tc, ms, sr, rv, mr, rx, rr, nI rm, nI sh, am, tp, pc, ps, ur, nI rp, rt, ds, un, tl, ro, lm, bs, re, sd, la, dl, lo, ep, ts, fl, ta) := by
  unfold wpX_undo
  refine xa_larger ?_
  refine xa_larger ?_
  exact ⟨65, xc_un_l (cw := rt_mx cw pc) (ss := rt_mx ss ps) (ct := 0) (sa := 0) hp 64 0 (by omega)⟩
theorem yc_un_l {P : SY → Prop} (hp : P (ir, nI wr, nI tc, nw, cw, ss, ct, sa, nI nx, sr, rv, mr, ry, rr, nI rm, nI sh, am, pc, ps, ur, nI rp, rt, ds, un, tl, ro, lm, dc, ms, ms, hr, tp, bs, rb, re, sd, la, dl, rt_zr lo 64, ep, mk, ts, ta, aa, ax, ap)) : ∀ d s, s + d = 64 → wY_undo_60 P ir (nI wr) (nI tc) nw cw ss ct sa (nI nx) sr rv mr ry rr (nI rm) (nI sh) am pc ps ur (nI rp) rt ds un tl ro lm dc ms ms hr tp (d + 1) (nI s) bs rb re sd la dl (rt_zr lo s) ep mk ts ta aa ax ap := by
  intro d
  induction d with
  | zero =>
    intro s h
    obtain rfl : s = 64 := by omega
    exact br_t rt_64e hp
  | succ d ih =>
    intro s h
    exact br_f (rt_64 s (by omega)) ⟨rt_in (by omega), nm_r (e' := rt_zr lo (s + 1)) (by rw [rt_ua (by omega), rt_n0]; rfl) (nm_r (nI_1 s) (ih (s + 1) (by omega)))⟩
theorem yc_un2 {P : SY → Prop} (hp : P (ir, nI wr, nI tc, nw, cw, rt_mx ss ps, 0, 0, nI nx, sr, rv, mr, ry, rr, nI rm, nI sh, am, pc, ps, ur, nI rp, rt, ds, un + 1, tl, ro, lm, dc, ms, ms, hr, tp, bs, rb, re, sd, la, dl, rt_zr lo 64, ep, mk, ts, ta, aa, ax, ap)) : wY_undo_19 P ir (nI wr) (nI tc) nw cw ss ct sa (nI nx) sr rv mr ry rr (nI rm) (nI sh) am pc ps ur (nI rp) rt ds un tl ro lm dc ms ms hr tp bs rb re sd la dl lo ep mk ts ta aa ax ap := by
  refine br_c (fun z => ?_) (fun z => ?_)
  · rw [rt_mx_g z] at hp
    exact nm_e ⟨65, yc_un_l (ct := 0) (sa := 0) (un := un + 1) hp 64 0 (by omega)⟩
  · rw [rt_mx_l (rt_nle z)] at hp
    exact nm_e ⟨65, yc_un_l (ss := ps) (ct := 0) (sa := 0) (un := un + 1) hp 64 0 (by omega)⟩
theorem yc_un {P : SY → Prop} (hp : P (ir, nI wr, nI tc, nw, rt_mx cw pc, rt_mx ss ps, 0, 0, nI nx, sr, rv, mr, ry, rr, nI rm, nI sh, am, pc, ps, ur, nI rp, rt, ds, un + 1, tl, ro, lm, dc, ms, ms, hr, tp, bs, rb, re, sd, la, dl, rt_zr lo 64, ep, mk, ts, ta, aa, ax, ap)) : wpY_undo P (ir, nI wr, nI tc, nw, cw, ss, ct, sa, nI nx, sr, rv, mr, ry, rr, nI rm, nI sh, am, pc, ps, ur, nI rp, rt, ds, un, tl, ro, lm, dc, ms, ms, hr, tp, bs, rb, re, sd, la, dl, lo, ep, mk, ts, ta, aa, ax, ap) := by
  refine br_c (fun z => ?_) (fun z => ?_)
  · rw [rt_mx_g z] at hp
    exact yc_un2 hp
  · rw [rt_mx_l (rt_nle z)] at hp
    exact yc_un2 (cw := pc) hp
theorem lc_sm (r : Int32) : ∃ ms' sr' rv' mr' : Int32, (∀ P : SX → Prop, P (ir, nw, cw, ss, ct, sa, nI wr, nI nx, nI tc, ms', sr', rv', mr', rx, rr, nI rm, nI sh, am, tp, pc, ps, ur, nI rp, rt, ds, un, tl, ro, lm, bs, re, sd, la, dl, lo, ep, ts, fl, ta) → wpX_sample P (ir, nw, cw, ss, ct, sa, nI wr, nI nx, nI tc, ms, sr, rv, mr, rx, rr, nI rm, nI sh, am, tp, pc, ps, ur, nI rp, rt, ds, un, tl, ro, lm, bs, re, sd, la, dl, lo, ep, ts, fl, ta) r) ∧ (∀ P : SY → Prop, P (ir, nI wr, nI tc, nw, cw, ss, ct, sa, nI nx, sr', rv', mr', ry, rr, nI rm, nI sh, am, pc, ps, ur, nI rp, rt, ds, un, tl, ro, lm, dc, ms', ms', hr, tp, bs, rb, re, sd, la, dl, lo, ep, mk, ts, ta, aa, ax, ap) → wpY_sample P (ir, nI wr, nI tc, nw, cw, ss, ct, sa, nI nx, sr, rv, mr, ry, rr, nI rm, nI sh, am, pc, ps, ur, nI rp, rt, ds, un, tl, ro, lm, dc, ms, ms, hr, tp, bs, rb, re, sd, la, dl, lo, ep, mk, ts, ta, aa, ax, ap) r) := by
  by_cases m0 : ms = 0
  · exact ⟨1, r, r / 2, r, fun P hp => br_t m0 ⟨by decide, nm_e hp⟩, fun P hp => br_t m0 ⟨by decide, nm_e hp⟩⟩
  · by_cases g : 0 ≤ sr - r
    · by_cases m1 : mr ≤ r
      · exact ⟨ms, ((7 * sr) + r) / 8, ((3 * rv) + (sr - r)) / 4, mr, fun P hp => br_f m0 (nm_e (br_t g ⟨by decide, nm_e ⟨by decide, nm_e (br_t m1 hp)⟩⟩)), fun P hp => br_f m0 (nm_e (br_t g ⟨by decide, nm_e ⟨by decide, nm_e (br_t m1 hp)⟩⟩))⟩
      · exact ⟨ms, ((7 * sr) + r) / 8, ((3 * rv) + (sr - r)) / 4, r, fun P hp => br_f m0 (nm_e (br_t g ⟨by decide, nm_e ⟨by decide, nm_e (br_f m1 hp)⟩⟩)), fun P hp => br_f m0 (nm_e (br_t g ⟨by decide, nm_e ⟨by decide, nm_e (br_f m1 hp)⟩⟩))⟩
    · by_cases m1 : mr ≤ r
      · exact ⟨ms, ((7 * sr) + r) / 8, ((3 * rv) + (-(sr - r))) / 4, mr, fun P hp => br_f m0 (nm_e (br_f g ⟨by decide, nm_e ⟨by decide, nm_e (br_t m1 hp)⟩⟩)), fun P hp => br_f m0 (nm_e (br_f g (nm_e ⟨by decide, nm_e ⟨by decide, nm_e (br_t m1 hp)⟩⟩)))⟩
      · exact ⟨ms, ((7 * sr) + r) / 8, ((3 * rv) + (-(sr - r))) / 4, r, fun P hp => br_f m0 (nm_e (br_f g ⟨by decide, nm_e ⟨by decide, nm_e (br_f m1 hp)⟩⟩)), fun P hp => br_f m0 (nm_e (br_f g (nm_e ⟨by decide, nm_e ⟨by decide, nm_e (br_f m1 hp)⟩⟩)))⟩
theorem lc_gw {c1 t1 : Int32} : ∃ cw' : Int32, (∀ P : SX → Prop, P (ir, nw, cw', ss, t1, sa, nI wr, nI nx, nI tc, ms, sr, rv, mr, rx, rr, nI rm, nI sh, am, tp, pc, ps, ur, nI rp, rt, ds, un, tl, ro, lm, bs, re, sd, la, dl, lo, ep, ts, fl, ta) → wX_grow_69 P ir nw c1 ss t1 sa (nI wr) (nI nx) (nI tc) ms sr rv mr rx rr (nI rm) (nI sh) am tp pc ps ur (nI rp) rt ds un tl ro lm bs re sd la dl lo ep ts fl ta) ∧ (∀ P : SY → Prop, P (ir, nI wr, nI tc, nw, cw', ss, t1, sa, nI nx, sr, rv, mr, ry, rr, nI rm, nI sh, am, pc, ps, ur, nI rp, rt, ds, un, tl, ro, lm, dc, ms, ms, hr, tp, bs, rb, re, sd, la, dl, lo, ep, mk, ts, ta, aa, ax, ap) → wY_grow_69 P ir (nI wr) (nI tc) nw c1 ss t1 sa (nI nx) sr rv mr ry rr (nI rm) (nI sh) am pc ps ur (nI rp) rt ds un tl ro lm dc ms ms hr tp bs rb re sd la dl lo ep mk ts ta aa ax ap) := by
  by_cases z : c1 ≤ 32
  · exact ⟨c1, fun P hp => br_t z hp, fun P hp => br_t z hp⟩
  · exact ⟨32, fun P hp => br_f z hp, fun P hp => br_f z hp⟩
theorem lc_gr : ∃ cw' ct' : Int32, (∀ P : SX → Prop, P (ir, nw, cw', ss, ct', sa, nI wr, nI nx, nI tc, ms, sr, rv, mr, rx, rr, nI rm, nI sh, am, tp, pc, ps, ur, nI rp, rt, ds, un, tl, ro, lm, bs, re, sd, la, dl, lo, ep, ts, fl, ta) → wpX_grow P (ir, nw, cw, ss, ct, sa, nI wr, nI nx, nI tc, ms, sr, rv, mr, rx, rr, nI rm, nI sh, am, tp, pc, ps, ur, nI rp, rt, ds, un, tl, ro, lm, bs, re, sd, la, dl, lo, ep, ts, fl, ta)) ∧ (∀ P : SY → Prop, P (ir, nI wr, nI tc, nw, cw', ss, ct', sa, nI nx, sr, rv, mr, ry, rr, nI rm, nI sh, am, pc, ps, ur, nI rp, rt, ds, un, tl, ro, lm, dc, ms, ms, hr, tp, bs, rb, re, sd, la, dl, lo, ep, mk, ts, ta, aa, ax, ap) → wpY_grow P (ir, nI wr, nI tc, nw, cw, ss, ct, sa, nI nx, sr, rv, mr, ry, rr, nI rm, nI sh, am, pc, ps, ur, nI rp, rt, ds, un, tl, ro, lm, dc, ms, ms, hr, tp, bs, rb, re, sd, la, dl, lo, ep, mk, ts, ta, aa, ax, ap)) := by
  by_cases s1 : sa = 1
  · exact ⟨cw, ct, fun P hp => br_t s1 hp, fun P hp => br_t s1 hp⟩
  · by_cases z : ss ≤ cw
    · by_cases y : ct + 1 < cw
      · obtain ⟨c', hX, hY⟩ := lc_gw (ir := ir) (nw := nw) (ss := ss) (sa := sa) (ms := ms) (sr := sr) (rv := rv) (mr := mr) (rx := rx) (rr := rr) (am := am) (tp := tp) (pc := pc) (ps := ps) (ur := ur) (rt := rt) (ds := ds) (un := un) (tl := tl) (ro := ro) (lm := lm) (wr := wr) (nx := nx) (tc := tc) (rm := rm) (sh := sh) (rp := rp) (bs := bs) (re := re) (sd := sd) (la := la) (dl := dl) (lo := lo) (ep := ep) (ts := ts) (fl := fl) (ta := ta) (ry := ry) (hr := hr) (dc := dc) (rb := rb) (mk := mk) (aa := aa) (ax := ax) (ap := ap) (c1 := cw) (t1 := ct + 1)
        exact ⟨c', _, fun P hp => br_f s1 (br_t z (nm_e (br_t y (hX P hp)))), fun P hp => br_f s1 (br_t z (nm_e (br_t y (hY P hp))))⟩
      · obtain ⟨c', hX, hY⟩ := lc_gw (ir := ir) (nw := nw) (ss := ss) (sa := sa) (ms := ms) (sr := sr) (rv := rv) (mr := mr) (rx := rx) (rr := rr) (am := am) (tp := tp) (pc := pc) (ps := ps) (ur := ur) (rt := rt) (ds := ds) (un := un) (tl := tl) (ro := ro) (lm := lm) (wr := wr) (nx := nx) (tc := tc) (rm := rm) (sh := sh) (rp := rp) (bs := bs) (re := re) (sd := sd) (la := la) (dl := dl) (lo := lo) (ep := ep) (ts := ts) (fl := fl) (ta := ta) (ry := ry) (hr := hr) (dc := dc) (rb := rb) (mk := mk) (aa := aa) (ax := ax) (ap := ap) (c1 := cw + 1) (t1 := 0)
        exact ⟨c', _, fun P hp => br_f s1 (br_t z (nm_e (br_f y (nm_e (hX P hp))))), fun P hp => br_f s1 (br_t z (nm_e (br_f y (nm_e (hY P hp)))))⟩
    · obtain ⟨c', hX, hY⟩ := lc_gw (ir := ir) (nw := nw) (ss := ss) (sa := sa) (ms := ms) (sr := sr) (rv := rv) (mr := mr) (rx := rx) (rr := rr) (am := am) (tp := tp) (pc := pc) (ps := ps) (ur := ur) (rt := rt) (ds := ds) (un := un) (tl := tl) (ro := ro) (lm := lm) (wr := wr) (nx := nx) (tc := tc) (rm := rm) (sh := sh) (rp := rp) (bs := bs) (re := re) (sd := sd) (la := la) (dl := dl) (lo := lo) (ep := ep) (ts := ts) (fl := fl) (ta := ta) (ry := ry) (hr := hr) (dc := dc) (rb := rb) (mk := mk) (aa := aa) (ax := ax) (ap := ap) (c1 := cw + 1) (t1 := ct)
      exact ⟨c', _, fun P hp => br_f s1 (br_f z (nm_e (hX P hp))), fun P hp => br_f s1 (br_f z (nm_e (hY P hp)))⟩
/-! detection -/
def rt_dt (c : Nat → Bool) (d : Nat → Int32) (nw : Int32) (s : Nat) : Bool := c s && decide (¬ nw < d s)
theorem rt_dt_a {c : Nat → Bool} {d : Nat → Int32} {nw : Int32} {s : Nat} (h : c s = false) : rt_dt c d nw s = false := by
  unfold rt_dt; rw [h]; rfl
theorem rt_dt_b {c : Nat → Bool} {d : Nat → Int32} {nw : Int32} {s : Nat} (h : nw < d s) : rt_dt c d nw s = false := by
  unfold rt_dt; rw [decide_eq_false (fun z => z h), Bool.and_false]
theorem rt_dt_t {c : Nat → Bool} {d : Nat → Int32} {nw : Int32} {s : Nat} (h : c s = true) (g : ¬ nw < d s) : rt_dt c d nw s = true := by
  unfold rt_dt; rw [h, decide_eq_true g]; rfl
theorem rt_ca_mk {sd dl lo la : Nat → Int32} {rx : Int32} {c : Nat → Bool} (s : Nat) : rt_ca sd dl (rt_mk c lo s) la rx s = rt_ca sd dl lo la rx s := by
  unfold rt_ca; rw [rt_mk_ge s s (Nat.le_refl s)]
theorem rt_lm (lm : Int32) (c : Nat) : lm + nI c + 1 = lm + nI (c + 1) := by rw [Int32.add_assoc, nI_1]
theorem xc_dt_l {P : SX → Prop} (hx : nx ≤ 64) (hL : rt_IL la) (hp : ∀ n, wX_detectLosses_4 P ir nw cw ss ct sa (nI wr) (nI nx) (nI tc) ms sr rv mr rx rr (nI rm) (nI sh) am tp pc ps ur (nI rp) rt ds un tl ro (n + 1) (rt_b (decide (0 < rt_cn (rt_dt (rt_ca sd dl lo la rx) (fun s => (ta (la s).toNatClampNeg + rr) + rt_rw ms sr mr rm) nw) nx))) (nI nx) (lm + nI (rt_cn (rt_dt (rt_ca sd dl lo la rx) (fun s => (ta (la s).toNatClampNeg + rr) + rt_rw ms sr mr rm) nw) nx)) bs re sd la dl (rt_mk (rt_dt (rt_ca sd dl lo la rx) (fun s => (ta (la s).toNatClampNeg + rr) + rt_rw ms sr mr rm) nw) lo nx) ep ts fl ta) : ∀ d s, s + d = nx → wX_detectLosses_4 P ir nw cw ss ct sa (nI wr) (nI nx) (nI tc) ms sr rv mr rx rr (nI rm) (nI sh) am tp pc ps ur (nI rp) rt ds un tl ro (d + 1) (rt_b (decide (0 < rt_cn (rt_dt (rt_ca sd dl lo la rx) (fun s => (ta (la s).toNatClampNeg + rr) + rt_rw ms sr mr rm) nw) s))) (nI s) (lm + nI (rt_cn (rt_dt (rt_ca sd dl lo la rx) (fun s => (ta (la s).toNatClampNeg + rr) + rt_rw ms sr mr rm) nw) s)) bs re sd la dl (rt_mk (rt_dt (rt_ca sd dl lo la rx) (fun s => (ta (la s).toNatClampNeg + rr) + rt_rw ms sr mr rm) nw) lo s) ep ts fl ta := by
  intro d
  induction d with
  | zero =>
    intro s h
    obtain rfl : s = nx := by omega
    exact hp 0
  | succ d ih =>
    intro s h
    have k := ih (s + 1) (by omega)
    refine br_f (nI_ge (by omega) (by omega)) (xa_can (by omega) (rt_br _ (fun e => ?_) (fun e => xa_ld hL (by omega) (br_c (fun y => ?_) (fun y => ⟨rt_in (by omega), nm_r (e' := rt_mk (rt_dt (rt_ca sd dl lo la rx) (fun s => (ta (la s).toNatClampNeg + rr) + rt_rw ms sr mr rm) nw) lo (s + 1)) ?_ (nm_r (e' := lm + nI (rt_cn (rt_dt (rt_ca sd dl lo la rx) (fun s => (ta (la s).toNatClampNeg + rr) + rt_rw ms sr mr rm) nw) (s + 1))) ?_ (nm_r (nI_1 s) ?_))⟩)))))
    · rw [rt_ca_mk] at e
      rw [rt_cn_f (rt_dt_a e), rt_mk_f (rt_dt_a e)] at k; exact nm_r (nI_1 s) k
    · have g : (rt_dt (rt_ca sd dl lo la rx) (fun s => (ta (la s).toNatClampNeg + rr) + rt_rw ms sr mr rm) nw) s = false := rt_dt_b y
      rw [rt_cn_f g, rt_mk_f g] at k; exact nm_r (nI_1 s) k
    · rw [rt_ca_mk] at e
      have g : (rt_dt (rt_ca sd dl lo la rx) (fun s => (ta (la s).toNatClampNeg + rr) + rt_rw ms sr mr rm) nw) s = true := rt_dt_t e y
      rw [rt_mk_t g, rt_ua (by omega), rt_n1]
    · rw [rt_ca_mk] at e
      have g : (rt_dt (rt_ca sd dl lo la rx) (fun s => (ta (la s).toNatClampNeg + rr) + rt_rw ms sr mr rm) nw) s = true := rt_dt_t e y
      rw [rt_cn_t g, rt_lm]
    · rw [rt_ca_mk] at e
      have g : (rt_dt (rt_ca sd dl lo la rx) (fun s => (ta (la s).toNatClampNeg + rr) + rt_rw ms sr mr rm) nw) s = true := rt_dt_t e y
      have f : rt_b (decide (0 < rt_cn (rt_dt (rt_ca sd dl lo la rx) (fun s => (ta (la s).toNatClampNeg + rr) + rt_rw ms sr mr rm) nw) (s + 1))) = 1 := by rw [rt_cn_t g, decide_eq_true (Nat.succ_pos _)]; rfl
      rw [f] at k; exact k
theorem yc_dt_a {P : SY → Prop} (hL : rt_IL la) (hK : rt_IK rx ry hr) (hp : ∀ n, wY_detect_9 P (rt_rw ms sr mr rm) 0 ir (nI wr) (nI tc) nw cw ss ct sa (nI nx) sr rv mr ry rr (nI rm) (nI sh) am pc ps ur (nI rp) rt ds un tl ro lm dc ms ms hr tp (n + 1) (nI 64) bs rb re sd la dl lo ep (rt_st (rt_dt (rt_ca sd dl lo la rx) (fun s => (ta (la s).toNatClampNeg + rr) + rt_rw ms sr mr rm) nw) mk 64) ts ta aa ax ap) : ∀ d s, s + d = 64 → wY_detect_9 P (rt_rw ms sr mr rm) 0 ir (nI wr) (nI tc) nw cw ss ct sa (nI nx) sr rv mr ry rr (nI rm) (nI sh) am pc ps ur (nI rp) rt ds un tl ro lm dc ms ms hr tp (d + 1) (nI s) bs rb re sd la dl lo ep (rt_st (rt_dt (rt_ca sd dl lo la rx) (fun s => (ta (la s).toNatClampNeg + rr) + rt_rw ms sr mr rm) nw) mk s) ts ta aa ax ap := by
  intro d
  induction d with
  | zero =>
    intro s h
    obtain rfl : s = 64 := by omega
    exact hp 0
  | succ d ih =>
    intro s h
    have k := ih (s + 1) (by omega)
    have m0 : ∀ {x : Int32}, (rt_dt (rt_ca sd dl lo la rx) (fun s => (ta (la s).toNatClampNeg + rr) + rt_rw ms sr mr rm) nw) s = false → x = 0 → upd (rt_st (rt_dt (rt_ca sd dl lo la rx) (fun s => (ta (la s).toNatClampNeg + rr) + rt_rw ms sr mr rm) nw) mk s) (nI s).toNatClampNeg x = rt_st (rt_dt (rt_ca sd dl lo la rx) (fun s => (ta (la s).toNatClampNeg + rr) + rt_rw ms sr mr rm) nw) mk (s + 1) := by
      intro x g e
      rw [rt_ua (by omega), e]
      show _ = upd (rt_st (rt_dt (rt_ca sd dl lo la rx) (fun s => (ta (la s).toNatClampNeg + rr) + rt_rw ms sr mr rm) nw) mk s) s (rt_b ((rt_dt (rt_ca sd dl lo la rx) (fun s => (ta (la s).toNatClampNeg + rr) + rt_rw ms sr mr rm) nw) s))
      rw [g]; rfl
    have m1 : ∀ {x : Int32}, (rt_dt (rt_ca sd dl lo la rx) (fun s => (ta (la s).toNatClampNeg + rr) + rt_rw ms sr mr rm) nw) s = true → x = 1 → upd (rt_st (rt_dt (rt_ca sd dl lo la rx) (fun s => (ta (la s).toNatClampNeg + rr) + rt_rw ms sr mr rm) nw) mk s) (nI s).toNatClampNeg x = rt_st (rt_dt (rt_ca sd dl lo la rx) (fun s => (ta (la s).toNatClampNeg + rr) + rt_rw ms sr mr rm) nw) mk (s + 1) := by
      intro x g e
      rw [rt_ua (by omega), e]
      show _ = upd (rt_st (rt_dt (rt_ca sd dl lo la rx) (fun s => (ta (la s).toNatClampNeg + rr) + rt_rw ms sr mr rm) nw) mk s) s (rt_b ((rt_dt (rt_ca sd dl lo la rx) (fun s => (ta (la s).toNatClampNeg + rr) + rt_rw ms sr mr rm) nw) s))
      rw [g]; rfl
    refine br_f (rt_64 s (by omega)) (ya_can hL hK (by omega) (rt_br _ (fun e => ⟨rt_in (by omega), nm_r (m0 (rt_dt_a e) rt_n0) (nm_r (nI_1 s) k)⟩) (fun e => ⟨rt_in (by omega), by rw [rt_cp (by omega)]; exact rt_IL_in hL s, ?_⟩)))
    rw [rt_at (a := la) (by omega : s < 256)]
    exact br_c (fun y => ⟨rt_in (by omega), nm_r (m0 (rt_dt_b y) rt_n0) (nm_r (nI_1 s) k)⟩) (fun y => ⟨rt_in (by omega), nm_r (m1 (rt_dt_t e y) rt_n1) (nm_r (nI_1 s) k)⟩)
theorem yc_dt_b {P : SY → Prop} {c : Nat → Bool} {m : Nat → Int32} (hm : ∀ s, s < 64 → m s = rt_b (c s)) (hp : ∀ n, wY_detect_67 P ir (nI wr) (nI tc) nw cw ss ct sa (nI nx) sr rv mr ry rr (nI rm) (nI sh) am pc ps ur (nI rp) rt ds un tl ro dc ms ms hr tp (n + 1) (nI (rt_cn c 64)) (nI 64) (lm + nI (rt_cn c 64)) bs rb re sd la dl (rt_mk c lo 64) ep m ts ta aa ax ap) : ∀ d s, s + d = 64 → wY_detect_67 P ir (nI wr) (nI tc) nw cw ss ct sa (nI nx) sr rv mr ry rr (nI rm) (nI sh) am pc ps ur (nI rp) rt ds un tl ro dc ms ms hr tp (d + 1) (nI (rt_cn c s)) (nI s) (lm + nI (rt_cn c s)) bs rb re sd la dl (rt_mk c lo s) ep m ts ta aa ax ap := by
  intro d
  induction d with
  | zero =>
    intro s h
    obtain rfl : s = 64 := by omega
    exact hp 0
  | succ d ih =>
    intro s h
    have k := ih (s + 1) (by omega)
    refine br_f (rt_64 s (by omega)) ⟨rt_in (by omega), rt_bz (by omega) (fun y => ?_) (fun y => ?_)⟩
    · rw [hm s (by omega)] at y
      rw [rt_cn_f (rt_b0 y), rt_mk_f (rt_b0 y)] at k
      exact nm_r (nI_1 s) k
    · rw [hm s (by omega)] at y
      have g := rt_b1 y
      rw [rt_cn_t g, rt_mk_t g] at k
      exact ⟨rt_in (by omega), nm_r (e' := upd (rt_mk c lo s) s 1) (by rw [rt_ua (by omega), rt_n1]) (nm_r (rt_lm lm _) (nm_r (nI_1 _) (nm_r (nI_1 s) k)))⟩
theorem la_dt (hI : rt_IV nx wr tc rp sh rm rx ry hr dc bs re sd la dl lo ts fl rb aa ax ap) : ∃ (u : SX) (v : SY), (∀ P : SX → Prop, P u → wpX_detectLosses P (ir, nw, cw, ss, ct, sa, nI wr, nI nx, nI tc, ms, sr, rv, mr, rx, rr, nI rm, nI sh, am, tp, pc, ps, ur, nI rp, rt, ds, un, tl, ro, lm, bs, re, sd, la, dl, lo, ep, ts, fl, ta)) ∧ (∀ P : SY → Prop, P v → wpY_detect P (ir, nI wr, nI tc, nw, cw, ss, ct, sa, nI nx, sr, rv, mr, ry, rr, nI rm, nI sh, am, pc, ps, ur, nI rp, rt, ds, un, tl, ro, lm, dc, ms, ms, hr, tp, bs, rb, re, sd, la, dl, lo, ep, mk, ts, ta, aa, ax, ap)) ∧ rt_RL tc u v := by
  obtain ⟨⟨n1, n2, n3, n4, n5, n6⟩, hS, hZl, hZd, hZr, hL, hT, hK, hF, hB, hC⟩ := hI
  have hx : nx ≤ 64 := by omega
  obtain ⟨dd, hdd⟩ : ∃ d, 64 = nx + d := ⟨64 - nx, by omega⟩
  have hz : ∀ s, nx ≤ s → (rt_dt (rt_ca sd dl lo la rx) (fun s => (ta (la s).toNatClampNeg + rr) + rt_rw ms sr mr rm) nw) s = false := fun s hs => rt_dt_a (rt_IS_ca hS dl lo la rx s hs)
  have e1 : rt_cn (rt_dt (rt_ca sd dl lo la rx) (fun s => (ta (la s).toNatClampNeg + rr) + rt_rw ms sr mr rm) nw) 64 = rt_cn (rt_dt (rt_ca sd dl lo la rx) (fun s => (ta (la s).toNatClampNeg + rr) + rt_rw ms sr mr rm) nw) nx := by rw [hdd]; exact rt_cn_hi (rt_dt (rt_ca sd dl lo la rx) (fun s => (ta (la s).toNatClampNeg + rr) + rt_rw ms sr mr rm) nw) hz dd
  have e2 : rt_mk (rt_dt (rt_ca sd dl lo la rx) (fun s => (ta (la s).toNatClampNeg + rr) + rt_rw ms sr mr rm) nw) lo 64 = rt_mk (rt_dt (rt_ca sd dl lo la rx) (fun s => (ta (la s).toNatClampNeg + rr) + rt_rw ms sr mr rm) nw) lo nx := by rw [hdd]; exact rt_mk_hi hz dd
  have l0 : lm + nI (rt_cn (rt_dt (rt_ca sd dl lo la rx) (fun s => (ta (la s).toNatClampNeg + rr) + rt_rw ms sr mr rm) nw) 0) = lm := by
    show lm + nI 0 = lm
    rw [nI_0, Int32.add_zero]
  have XD : ∀ P : SX → Prop, (∀ n, wX_detectLosses_4 P ir nw cw ss ct sa (nI wr) (nI nx) (nI tc) ms sr rv mr rx rr (nI rm) (nI sh) am tp pc ps ur (nI rp) rt ds un tl ro (n + 1) (rt_b (decide (0 < rt_cn (rt_dt (rt_ca sd dl lo la rx) (fun s => (ta (la s).toNatClampNeg + rr) + rt_rw ms sr mr rm) nw) nx))) (nI nx) (lm + nI (rt_cn (rt_dt (rt_ca sd dl lo la rx) (fun s => (ta (la s).toNatClampNeg + rr) + rt_rw ms sr mr rm) nw) nx)) bs re sd la dl (rt_mk (rt_dt (rt_ca sd dl lo la rx) (fun s => (ta (la s).toNatClampNeg + rr) + rt_rw ms sr mr rm) nw) lo nx) ep ts fl ta) → wpX_detectLosses P (ir, nw, cw, ss, ct, sa, nI wr, nI nx, nI tc, ms, sr, rv, mr, rx, rr, nI rm, nI sh, am, tp, pc, ps, ur, nI rp, rt, ds, un, tl, ro, lm, bs, re, sd, la, dl, lo, ep, ts, fl, ta) := by
    intro P hp
    have k := xc_dt_l hx hL hp nx 0 (by omega)
    rw [l0] at k
    exact ⟨_, k⟩
  have YD : ∀ P : SY → Prop, (∀ n, wY_detect_67 P ir (nI wr) (nI tc) nw cw ss ct sa (nI nx) sr rv mr ry rr (nI rm) (nI sh) am pc ps ur (nI rp) rt ds un tl ro dc ms ms hr tp (n + 1) (nI (rt_cn (rt_dt (rt_ca sd dl lo la rx) (fun s => (ta (la s).toNatClampNeg + rr) + rt_rw ms sr mr rm) nw) nx)) (nI 64) (lm + nI (rt_cn (rt_dt (rt_ca sd dl lo la rx) (fun s => (ta (la s).toNatClampNeg + rr) + rt_rw ms sr mr rm) nw) nx)) bs rb re sd la dl (rt_mk (rt_dt (rt_ca sd dl lo la rx) (fun s => (ta (la s).toNatClampNeg + rr) + rt_rw ms sr mr rm) nw) lo nx) ep (rt_st (rt_dt (rt_ca sd dl lo la rx) (fun s => (ta (la s).toNatClampNeg + rr) + rt_rw ms sr mr rm) nw) mk 64) ts ta aa ax ap) → wpY_detect P (ir, nI wr, nI tc, nw, cw, ss, ct, sa, nI nx, sr, rv, mr, ry, rr, nI rm, nI sh, am, pc, ps, ur, nI rp, rt, ds, un, tl, ro, lm, dc, ms, ms, hr, tp, bs, rb, re, sd, la, dl, lo, ep, mk, ts, ta, aa, ax, ap) := by
    intro P hp
    unfold wpY_detect
    refine ya_rw ⟨65, yc_dt_a (rx := rx) hL hK (fun n => br_t rt_64e ⟨65, ?_⟩) 64 0 (by omega)⟩
    rw [← e1, ← e2] at hp
    have k := yc_dt_b (c := (rt_dt (rt_ca sd dl lo la rx) (fun s => (ta (la s).toNatClampNeg + rr) + rt_rw ms sr mr rm) nw)) (m := rt_st (rt_dt (rt_ca sd dl lo la rx) (fun s => (ta (la s).toNatClampNeg + rr) + rt_rw ms sr mr rm) nw) mk 64) (fun s hs => rt_st_v 64 s hs) hp 64 0 (by omega)
    rw [l0] at k
    exact k
  have hZ2 : rt_IZ nx (rt_mk (rt_dt (rt_ca sd dl lo la rx) (fun s => (ta (la s).toNatClampNeg + rr) + rt_rw ms sr mr rm) nw) lo nx) := rt_IZ_mk hZl hz nx
  generalize hc : rt_cn (rt_dt (rt_ca sd dl lo la rx) (fun s => (ta (la s).toNatClampNeg + rr) + rt_rw ms sr mr rm) nw) nx = c at XD YD
  have hc6 : c ≤ 64 := by
    have := rt_cn_le (rt_dt (rt_ca sd dl lo la rx) (fun s => (ta (la s).toNatClampNeg + rr) + rt_rw ms sr mr rm) nw) nx
    omega
  have xe : nI nx ≤ nI nx := nI_le (Nat.le_refl _) (by omega)
  by_cases c0 : 0 < c
  · have d1 : ¬ rt_b (decide (0 < c)) = 0 := by rw [decide_eq_true c0]; decide
    have c1 : ¬ nI c ≤ 0 := nI_nle c0 (by omega)
    by_cases s0 : sa = 0
    · refine ⟨_, (ir, nI wr, nI tc, nw, rt_mx (cw / 2) 2, rt_mx (cw / 2) 2, 0, 1, nI nx, sr, rv, mr, ry, rr, nI rm, nI sh, am, cw, ss, 0, nI nx, rt, ds, un, tl, ro, lm + nI c, dc, ms, ms, hr, tp, bs, rb, re, sd, la, dl, rt_mk (rt_dt (rt_ca sd dl lo la rx) (fun s => (ta (la s).toNatClampNeg + rr) + rt_rw ms sr mr rm) nw) lo nx, rt_zr ep 64, rt_st (rt_dt (rt_ca sd dl lo la rx) (fun s => (ta (la s).toNatClampNeg + rr) + rt_rw ms sr mr rm) nw) mk 64, ts, ta, aa, ax, ap), fun P hp => XD P (fun n => br_t xe (br_f d1 (br_t s0 (xc_be ⟨by decide, xa_larger hp⟩)))), fun P hp => YD P (fun n => br_t rt_64e (br_f c1 (br_t s0 (yc_be ⟨by decide, nm_e ?_⟩)))), rt_RLi (rp := nx) ⟨⟨n1, n2, n3, hx, n5, n6⟩, hS, hZ2, hZd, hZr, hL, hT, hK, hF, hB, hC⟩⟩
      refine br_c (fun z => ?_) (fun z => ?_)
      · rw [rt_mx_g z] at hp; exact hp
      · rw [rt_mx_l (rt_nle z)] at hp; exact hp
    · exact ⟨_, _, fun P hp => XD P (fun n => br_t xe (br_f d1 (br_f s0 hp))), fun P hp => YD P (fun n => br_t rt_64e (br_f c1 (br_f s0 hp))), rt_RLi ⟨⟨n1, n2, n3, n4, n5, n6⟩, hS, hZ2, hZd, hZr, hL, hT, hK, hF, hB, hC⟩⟩
  · have d0 : rt_b (decide (0 < c)) = 0 := by rw [decide_eq_false c0]; rfl
    have c1 : nI c ≤ 0 := by
      have : c = 0 := by omega
      rw [this]; decide
    exact ⟨_, _, fun P hp => XD P (fun n => br_t xe (br_t d0 hp)), fun P hp => YD P (fun n => br_t rt_64e (br_t c1 hp)), rt_RLi ⟨⟨n1, n2, n3, n4, n5, n6⟩, hS, hZ2, hZd, hZr, hL, hT, hK, hF, hB, hC⟩⟩
end
end
section
/-! the timer fires, and time passes, in lockstep -/
section
variable {ir nw cw ss ct sa ms sr rv mr rx rr am tp pc ps ur rt ds un tl ro lm : Int32} {wr nx tc rm sh rp : Nat} {bs re sd la dl lo ep ts fl ta : Nat → Int32} {ry hr dc : Int32} {rb mk aa ax ap : Nat → Int32} {post : Int32 → Prop}
theorem xd_id1 {t : Nat} (ht : tc ≤ 256) (h : t < tc) (hp : post 1) : wpX_isId post (ir, nw, cw, ss, ct, sa, nI wr, nI nx, nI tc, ms, sr, rv, mr, rx, rr, nI rm, nI sh, am, tp, pc, ps, ur, nI rp, rt, ds, un, tl, ro, lm, bs, re, sd, la, dl, lo, ep, ts, fl, ta) (nI t) :=
  br_f (nI_pos (by omega)) (br_f (nI_ge h (by omega)) hp)
theorem xd_id0 {x : Int32} (h : x < 0 ∨ nI tc ≤ x) (hp : post 0) : wpX_isId post (ir, nw, cw, ss, ct, sa, nI wr, nI nx, nI tc, ms, sr, rv, mr, rx, rr, nI rm, nI sh, am, tp, pc, ps, ur, nI rp, rt, ds, un, tl, ro, lm, bs, re, sd, la, dl, lo, ep, ts, fl, ta) x := by
  by_cases z : x < 0
  · exact br_t z hp
  · exact br_f z (br_t (h.elim (fun y => absurd y z) id) hp)
theorem xd_to_l {P : SX → Prop} (hx : nx ≤ 64) (hp : ∀ n, wX_timeOut_68 P ir nw cw ss ct sa (nI wr) (nI nx) (nI tc) ms sr rv mr rx rr (nI rm) (nI sh) am tp pc ps ur (nI rp) rt ds un tl ro lm (n + 1) (nI nx) bs re sd la dl (rt_mk (rt_ou sd dl) lo nx) ep ts fl ta) : ∀ d s, s + d = nx → wX_timeOut_68 P ir nw cw ss ct sa (nI wr) (nI nx) (nI tc) ms sr rv mr rx rr (nI rm) (nI sh) am tp pc ps ur (nI rp) rt ds un tl ro lm (d + 1) (nI s) bs re sd la dl (rt_mk (rt_ou sd dl) lo s) ep ts fl ta := by
  intro d
  induction d with
  | zero =>
    intro s h
    obtain rfl : s = nx := by omega
    exact hp 0
  | succ d ih =>
    intro s h
    have k := ih (s + 1) (by omega)
    refine br_f (nI_ge (by omega) (by omega)) (xa_out (by omega) (rt_br _ (fun e => ?_) (fun e => ⟨rt_in (by omega), nm_r (e' := rt_mk (rt_ou sd dl) lo (s + 1)) (by rw [rt_mk_t e, rt_ua (by omega), rt_n1]) (nm_r (nI_1 s) k)⟩)))
    rw [rt_mk_f e] at k; exact nm_r (nI_1 s) k
theorem yd_to_l {P : SY → Prop} (hp : ∀ n, wY_fire_178 P ir (nI wr) (nI tc) nw cw ss ct sa (nI nx) sr rv mr ry rr (nI rm) (nI sh) am pc ps ur (nI rp) rt ds un tl ro lm dc ms ms hr tp (n + 1) (nI 64) bs rb re sd la dl (rt_mk (rt_ou sd dl) lo 64) ep mk ts ta aa ax ap) : ∀ d s, s + d = 64 → wY_fire_178 P ir (nI wr) (nI tc) nw cw ss ct sa (nI nx) sr rv mr ry rr (nI rm) (nI sh) am pc ps ur (nI rp) rt ds un tl ro lm dc ms ms hr tp (d + 1) (nI s) bs rb re sd la dl (rt_mk (rt_ou sd dl) lo s) ep mk ts ta aa ax ap := by
  intro d
  induction d with
  | zero =>
    intro s h
    obtain rfl : s = 64 := by omega
    exact hp 0
  | succ d ih =>
    intro s h
    have k := ih (s + 1) (by omega)
    refine br_f (rt_64 s (by omega)) (ya_out (by omega) (rt_br _ (fun e => ?_) (fun e => ⟨rt_in (by omega), nm_r (e' := rt_mk (rt_ou sd dl) lo (s + 1)) (by rw [rt_mk_t e, rt_ua (by omega), rt_n1]) (nm_r (nI_1 s) k)⟩)))
    rw [rt_mk_f e] at k; exact nm_r (nI_1 s) k
theorem ld_43 (hx : nx ≤ 64) (hS : rt_IS nx tc sd) (h6 : sh ≤ 6) : ∃ s' : Nat, s' ≤ 6 ∧ (∀ P : SX → Prop, P (ir, nw, 1, ss, 0, 2, nI wr, nI nx, nI tc, ms, sr, rv, mr, rx, rr, nI rm, nI s', am, 0, pc, ps, ur, nI nx, rt, ds, un, tl, ro, lm, bs, re, sd, la, dl, rt_mk (rt_ou sd dl) lo nx, ep, ts, fl, ta) → wX_timeOut_43 P ir nw cw ss ct sa (nI wr) (nI nx) (nI tc) ms sr rv mr rx rr (nI rm) (nI sh) am tp pc ps ur (nI rp) rt ds un tl ro lm bs re sd la dl lo ep ts fl ta) ∧ (∀ (P : SY → Prop) (v : SY), (∀ Q : SY → Prop, Q v → wpY_send Q (ir, nI wr, nI tc, nw, 1, ss, 0, 2, nI nx, sr, rv, mr, ry, rr, nI rm, nI s', am, pc, ps, ur, nI nx, rt, ds, un, tl, ro, lm, dc, ms, ms, hr, 0, bs, rb, re, sd, la, dl, rt_mk (rt_ou sd dl) lo nx, ep, mk, ts, ta, aa, ax, ap)) → P v → wY_fire_153 P ir (nI wr) (nI tc) nw cw ss ct sa (nI nx) sr rv mr ry rr (nI rm) (nI sh) am pc ps ur (nI rp) rt ds un tl ro lm dc ms ms hr tp bs rb re sd la dl lo ep mk ts ta aa ax ap) := by
  obtain ⟨dd, hdd⟩ : ∃ d, 64 = nx + d := ⟨64 - nx, by omega⟩
  have e2 : rt_mk (rt_ou sd dl) lo 64 = rt_mk (rt_ou sd dl) lo nx := by rw [hdd]; exact rt_mk_hi (rt_IS_ou hS dl) dd
  have xe : nI nx ≤ nI nx := nI_le (Nat.le_refl _) (by omega)
  rcases Nat.lt_or_ge sh 6 with h | h
  · refine ⟨sh + 1, by omega, fun P hp => ?_, fun P v hs hp => ?_⟩
    · exact ⟨nx + 1, xd_to_l (cw := 1) (ct := 0) (sa := 2) (rp := nx) hx (fun n => br_t xe (br_f (nI_ge (b := 6) h (by decide)) (nm_r (nI_1 sh) hp))) nx 0 (by omega)⟩
    · obtain ⟨ir_, wr_, tc_, nw_, cw_, ss_, ct_, sa_, nx_, sr_, rv_, mr_, ry_, rr_, rm_, sh_, am_, pc_, ps_, ur_, rp_, rt_, ds_, un_, tl_, ro_, lm_, dc_, ms_, mm_, hr_, tp_, bs_, rb_, re_, sd_, la_, dl_, lo_, ep_, mk_, ts_, ta_, aa_, ax_, ap_⟩ := v
      refine ⟨65, yd_to_l (cw := 1) (ct := 0) (sa := 2) (rp := nx) (fun n => br_t rt_64e (br_t (by rw [nI_1 sh]; exact nI_le (b := 6) (by omega) (by decide)) ?_)) 64 0 (by omega)⟩
      rw [nI_1 sh, e2]
      exact hs _ hp
  · obtain rfl : sh = 6 := by omega
    refine ⟨6, by omega, fun P hp => ?_, fun P v hs hp => ?_⟩
    · exact ⟨nx + 1, xd_to_l (cw := 1) (ct := 0) (sa := 2) (rp := nx) hx (fun n => br_t xe (br_t (by decide) hp)) nx 0 (by omega)⟩
    · obtain ⟨ir_, wr_, tc_, nw_, cw_, ss_, ct_, sa_, nx_, sr_, rv_, mr_, ry_, rr_, rm_, sh_, am_, pc_, ps_, ur_, rp_, rt_, ds_, un_, tl_, ro_, lm_, dc_, ms_, mm_, hr_, tp_, bs_, rb_, re_, sd_, la_, dl_, lo_, ep_, mk_, ts_, ta_, aa_, ax_, ap_⟩ := v
      refine ⟨65, yd_to_l (cw := 1) (ct := 0) (sa := 2) (rp := nx) (fun n => br_t rt_64e (br_f (by decide) ?_)) 64 0 (by omega)⟩
      rw [e2]
      exact hs _ hp
theorem ld_21 (hx : nx ≤ 64) (hS : rt_IS nx tc sd) (h6 : sh ≤ 6) : ∃ (s' : Nat) (ss' : Int32), s' ≤ 6 ∧ (∀ P : SX → Prop, P (ir, nw, 1, ss', 0, 2, nI wr, nI nx, nI tc, ms, sr, rv, mr, rx, rr, nI rm, nI s', am, 0, pc, ps, ur, nI nx, rt, ds, un, tl, ro, lm, bs, re, sd, la, dl, rt_mk (rt_ou sd dl) lo nx, ep, ts, fl, ta) → wX_timeOut_21 P ir nw cw ss ct sa (nI wr) (nI nx) (nI tc) ms sr rv mr rx rr (nI rm) (nI sh) am tp pc ps ur (nI rp) rt ds un tl ro lm bs re sd la dl lo ep ts fl ta) ∧ (∀ (P : SY → Prop) (v : SY), (∀ Q : SY → Prop, Q v → wpY_send Q (ir, nI wr, nI tc, nw, 1, ss', 0, 2, nI nx, sr, rv, mr, ry, rr, nI rm, nI s', am, pc, ps, ur, nI nx, rt, ds, un, tl, ro, lm, dc, ms, ms, hr, 0, bs, rb, re, sd, la, dl, rt_mk (rt_ou sd dl) lo nx, ep, mk, ts, ta, aa, ax, ap)) → P v → wY_fire_122 P ir (nI wr) (nI tc) nw cw ss ct sa (nI nx) sr rv mr ry rr (nI rm) (nI sh) am pc ps ur (nI rp) rt ds un tl ro lm dc ms ms hr tp bs rb re sd la dl lo ep mk ts ta aa ax ap) := by
  by_cases z : sa = 2
  · obtain ⟨s', h, hX, hY⟩ := ld_43 (wr := wr) (nx := nx) (tc := tc) (rm := rm) (sh := sh) (rp := rp) (ir := ir) (nw := nw) (cw := cw) (ct := ct) (sa := sa) (ms := ms) (sr := sr) (rv := rv) (mr := mr) (rx := rx) (rr := rr) (am := am) (tp := tp) (pc := pc) (ps := ps) (ur := ur) (rt := rt) (ds := ds) (un := un) (tl := tl) (ro := ro) (lm := lm) (ry := ry) (hr := hr) (dc := dc) (bs := bs) (re := re) (sd := sd) (la := la) (dl := dl) (lo := lo) (ep := ep) (ts := ts) (fl := fl) (ta := ta) (rb := rb) (mk := mk) (aa := aa) (ax := ax) (ap := ap) (ss := ss) hx hS h6
    exact ⟨s', ss, h, fun P hp => br_t z (hX P hp), fun P v hs hp => br_t z (hY P v hs hp)⟩
  · obtain ⟨s', h, hX, hY⟩ := ld_43 (wr := wr) (nx := nx) (tc := tc) (rm := rm) (sh := sh) (rp := rp) (ir := ir) (nw := nw) (cw := cw) (ct := ct) (sa := sa) (ms := ms) (sr := sr) (rv := rv) (mr := mr) (rx := rx) (rr := rr) (am := am) (tp := tp) (pc := pc) (ps := ps) (ur := ur) (rt := rt) (ds := ds) (un := un) (tl := tl) (ro := ro) (lm := lm) (ry := ry) (hr := hr) (dc := dc) (bs := bs) (re := re) (sd := sd) (la := la) (dl := dl) (lo := lo) (ep := ep) (ts := ts) (fl := fl) (ta := ta) (rb := rb) (mk := mk) (aa := aa) (ax := ax) (ap := ap) (ss := rt_mx (cw / 2) 2) hx hS h6
    refine ⟨s', _, h, fun P hp => br_f z ⟨by decide, xa_larger (hX P hp)⟩, fun P v hs hp => br_f z ⟨by decide, nm_e ?_⟩⟩
    have k := hY P v hs hp
    refine br_c (fun y => ?_) (fun y => ?_)
    · rw [rt_mx_g y] at k; exact k
    · rw [rt_mx_l (rt_nle y)] at k; exact k
/-- the timeout, up to what is sent behind it -/
theorem la_to (hI : rt_IV nx wr tc rp sh rm rx ry hr dc bs re sd la dl lo ts fl rb aa ax ap) : ∃ (u : SX) (v : SY), (∀ P : SX → Prop, P u → wpX_timeOut P (ir, nw, cw, ss, ct, sa, nI wr, nI nx, nI tc, ms, sr, rv, mr, rx, rr, nI rm, nI sh, am, tp, pc, ps, ur, nI rp, rt, ds, un, tl, ro, lm, bs, re, sd, la, dl, lo, ep, ts, fl, ta)) ∧ (∀ (P : SY → Prop) (w : SY), (∀ Q : SY → Prop, Q w → wpY_send Q v) → P w → wpY_fire P (ir, nI wr, nI tc, nw, cw, ss, ct, sa, nI nx, sr, rv, mr, ry, rr, nI rm, nI sh, am, pc, ps, ur, nI rp, rt, ds, un, tl, ro, lm, dc, ms, ms, hr, tp, bs, rb, re, sd, la, dl, lo, ep, mk, ts, ta, aa, ax, ap) 3) ∧ rt_RL tc u v := by
  obtain ⟨⟨n1, n2, n3, n4, n5, n6⟩, hS, hZl, hZd, hZr, hL, hT, hK, hF, hB, hC⟩ := hI
  have hx : nx ≤ 64 := by omega
  have hZ2 : rt_IZ nx (rt_mk (rt_ou sd dl) lo nx) := rt_IZ_mk hZl (rt_IS_ou hS dl) nx
  by_cases z : sa = 0
  · obtain ⟨s', ss', h, hX, hY⟩ := ld_21 (wr := wr) (nx := nx) (tc := tc) (rm := rm) (sh := sh) (rp := rp) (ir := ir) (nw := nw) (cw := cw) (ss := ss) (ct := ct) (sa := sa) (ms := ms) (sr := sr) (rv := rv) (mr := mr) (rx := rx) (rr := rr) (am := am) (tp := tp) (rt := rt) (ds := ds) (un := un) (tl := tl) (lm := lm) (ry := ry) (hr := hr) (dc := dc) (bs := bs) (re := re) (sd := sd) (la := la) (dl := dl) (lo := lo) (ts := ts) (fl := fl) (ta := ta) (rb := rb) (mk := mk) (aa := aa) (ax := ax) (ap := ap) (ro := ro + 1) (pc := cw) (ps := ss) (ur := 0) (ep := rt_zr ep 64) hx hS n5
    exact ⟨_, _, fun P hp => nm_e (br_t z (xc_be (hX P hp))), fun P w hs hp => br_f (by decide) (br_f (by decide) (nm_e (br_t z (yc_be (hY P w hs hp))))), rt_RLi (rp := nx) (sh := s') ⟨⟨n1, n2, n3, hx, h, n6⟩, hS, hZ2, hZd, hZr, hL, hT, hK, hF, hB, hC⟩⟩
  · obtain ⟨s', ss', h, hX, hY⟩ := ld_21 (wr := wr) (nx := nx) (tc := tc) (rm := rm) (sh := sh) (rp := rp) (ir := ir) (nw := nw) (cw := cw) (ss := ss) (ct := ct) (sa := sa) (ms := ms) (sr := sr) (rv := rv) (mr := mr) (rx := rx) (rr := rr) (am := am) (tp := tp) (rt := rt) (ds := ds) (un := un) (tl := tl) (lm := lm) (ry := ry) (hr := hr) (dc := dc) (bs := bs) (re := re) (sd := sd) (la := la) (dl := dl) (lo := lo) (ts := ts) (fl := fl) (ta := ta) (rb := rb) (mk := mk) (aa := aa) (ax := ax) (ap := ap) (ro := ro + 1) (pc := pc) (ps := ps) (ur := ur) (ep := ep) hx hS n5
    exact ⟨_, _, fun P hp => nm_e (br_f z (hX P hp)), fun P w hs hp => br_f (by decide) (br_f (by decide) (nm_e (br_f z (hY P w hs hp)))), rt_RLi (rp := nx) (sh := s') ⟨⟨n1, n2, n3, hx, h, n6⟩, hS, hZ2, hZd, hZr, hL, hT, hK, hF, hB, hC⟩⟩
/-- the probe's transmission -/
theorem ld_pr {x : Int32} (hI : rt_IV nx wr tc rp sh rm rx ry hr dc bs re sd la dl lo ts fl rb aa ax ap) (hq : x = -1 ∨ ∃ j, j ≤ nx ∧ j < wr ∧ x = nI j) : ∃ (t : Nat) (u : SX) (v : SY), (∀ P : SX → Prop, P u → wX_probe_32 P x ir nw cw ss ct sa (nI wr) (nI nx) (nI tc) ms sr rv mr rx rr (nI rm) (nI sh) am tp pc ps ur (nI rp) rt ds un tl ro lm bs re sd la dl lo ep ts fl ta) ∧ (∀ (P : SY → Prop) (w : SY), (∀ Q : SY → Prop, Q w → wpY_send Q v) → P w → wY_fire_74 P x ir (nI wr) (nI tc) nw cw ss ct sa (nI nx) sr rv mr ry rr (nI rm) (nI sh) am pc ps ur (nI rp) rt ds un tl ro lm dc ms ms hr tp bs rb re sd la dl lo ep mk ts ta aa ax ap) ∧ rt_RL t u v := by
  have n3 : tc ≤ 256 := hI.1.2.2.1
  have NO : (tc = 256 ∨ x < 0) → ∃ (t : Nat) (u : SX) (v : SY), (∀ P : SX → Prop, P u → wX_probe_32 P x ir nw cw ss ct sa (nI wr) (nI nx) (nI tc) ms sr rv mr rx rr (nI rm) (nI sh) am tp pc ps ur (nI rp) rt ds un tl ro lm bs re sd la dl lo ep ts fl ta) ∧ (∀ (P : SY → Prop) (w : SY), (∀ Q : SY → Prop, Q w → wpY_send Q v) → P w → wY_fire_74 P x ir (nI wr) (nI tc) nw cw ss ct sa (nI nx) sr rv mr ry rr (nI rm) (nI sh) am pc ps ur (nI rp) rt ds un tl ro lm dc ms ms hr tp bs rb re sd la dl lo ep mk ts ta aa ax ap) ∧ rt_RL t u v := by
    intro h
    refine ⟨tc, (ir, nw, cw, ss, ct, sa, nI wr, nI nx, nI tc, ms, sr, rv, mr, rx, rr, nI rm, nI sh, am, 1, pc, ps, ur, nI rp, rt, ds, un, tl, ro, lm, bs, re, sd, la, dl, lo, ep, ts, fl, ta), (ir, nI wr, nI tc, nw, cw, ss, ct, sa, nI nx, sr, rv, mr, ry, rr, nI rm, nI sh, am, pc, ps, ur, nI rp, rt, ds, un, tl, ro, lm, dc, ms, ms, hr, 1, bs, rb, re, sd, la, dl, lo, ep, mk, ts, ta, aa, ax, ap), fun P hp => ?_, fun P w hs hp => ?_, rt_RLi hI⟩
    · exact xb_trZ h (xd_id0 (Or.inr (nI_le (Nat.le_refl _) (by omega))) (br_t rfl hp))
    · obtain ⟨ir_, wr_, tc_, nw_, cw_, ss_, ct_, sa_, nx_, sr_, rv_, mr_, ry_, rr_, rm_, sh_, am_, pc_, ps_, ur_, rp_, rt_, ds_, un_, tl_, ro_, lm_, dc_, ms_, mm_, hr_, tp_, bs_, rb_, re_, sd_, la_, dl_, lo_, ep_, mk_, ts_, ta_, aa_, ax_, ap_⟩ := w
      exact yb_trZ h (br_t (by decide) (hs _ hp))
  rcases Nat.lt_or_ge tc 256 with ht | ht
  · rcases hq with rfl | ⟨j, hj, hw, rfl⟩
    · exact NO (Or.inr (by decide))
    · obtain ⟨u1, v1, hX, hY, R⟩ := la_tr (wr := wr) (nx := nx) (tc := tc) (rm := rm) (sh := sh) (rp := rp) (ir := ir) (nw := nw) (cw := cw) (ss := ss) (ct := ct) (sa := sa) (ms := ms) (sr := sr) (rv := rv) (mr := mr) (rx := rx) (rr := rr) (am := am) (tp := tp) (pc := pc) (ps := ps) (ur := ur) (rt := rt) (ds := ds) (un := un) (tl := tl) (ro := ro) (lm := lm) (ry := ry) (hr := hr) (dc := dc) (bs := bs) (re := re) (sd := sd) (la := la) (dl := dl) (lo := lo) (ep := ep) (ts := ts) (fl := fl) (ta := ta) (rb := rb) (mk := mk) (aa := aa) (ax := ax) (ap := ap) hI ht hj hw
      obtain ⟨wr', nx', rm', sh', rp', ir', nw', cw', ss', ct', sa', ms', sr', rv', mr', rx', rr', am', tp', pc', ps', ur', rt', ds', un', tl', ro', lm', ry', hr', dc', bs', re', sd', la', dl', lo', ep', ts', fl', ta', rb', mk', aa', ax', ap', rfl, rfl, hI'⟩ := R
      obtain ⟨hN, hS, hZl, hZd, hZr, hL, hT, hK, hF, hB, hC⟩ := hI'
      have I3 := rt_RLi (tc := tc + 1) (wr := wr') (nx := nx') (rm := rm') (sh := sh') (rp := rp') (ir := ir') (nw := nw') (cw := cw') (ss := ss') (ct := ct') (sa := sa') (ms := ms') (sr := sr') (rv := rv') (mr := mr') (rx := rx') (rr := rr') (am := am') (pc := pc') (ps := ps') (ur := ur') (rt := rt') (ds := ds') (un := un') (tl := tl') (ro := ro') (lm := lm') (ry := ry') (hr := hr') (dc := dc') (bs := bs') (re := re') (sd := sd') (la := la') (dl := dl') (lo := lo') (ep := ep') (ts := ts') (ta := ta') (rb := rb') (mk := mk') (aa := aa') (ax := ax') (fl := upd fl' tc (fl' tc ||| 1024)) (ap := upd ap' tc 1) (tp := 1) ⟨hN, hS, hZl, hZd, hZr, hL, hT, hK, rt_IF_p hF (Nat.lt_succ_self tc), hB, hC⟩
      refine ⟨tc + 1, _, _, fun P hp => ?_, fun P w hs hp => ?_, I3⟩
      · exact hX _ (xd_id1 (by omega) (Nat.lt_succ_self tc) (br_f (by decide) ⟨rt_i2 ht, rt_i2 ht, nm_r (e' := upd fl' tc (fl' tc ||| 1024)) (by rw [rt_ua ht, rt_cp ht]) hp⟩))
      · obtain ⟨ir_, wr_, tc_, nw_, cw_, ss_, ct_, sa_, nx_, sr_, rv_, mr_, ry_, rr_, rm_, sh_, am_, pc_, ps_, ur_, rp_, rt_, ds_, un_, tl_, ro_, lm_, dc_, ms_, mm_, hr_, tp_, bs_, rb_, re_, sd_, la_, dl_, lo_, ep_, mk_, ts_, ta_, aa_, ax_, ap_⟩ := w
        exact hY _ (br_f (nI_pos (by omega)) ⟨rt_i2 ht, nm_r (e' := upd ap' tc 1) (by rw [rt_ua ht, rt_n1]) (hs _ hp)⟩)
  · exact NO (Or.inl (by omega))
theorem yd_go_l {P : SY → Prop} (hp : wY_fire_74 P (rt_gl (rt_ou sd dl) 64) ir (nI wr) (nI tc) nw cw ss ct sa (nI nx) sr rv mr ry rr (nI rm) (nI sh) am pc ps ur (nI rp) rt ds un tl ro lm dc ms ms hr tp bs rb re sd la dl lo ep mk ts ta aa ax ap) : ∀ d s, s + d = 64 → wY_fire_52 P ir (nI wr) (nI tc) nw cw ss ct sa (nI nx) sr rv mr ry rr (nI rm) (nI sh) am pc ps ur (nI rp) rt ds un tl ro lm dc ms ms hr tp bs rb re sd la dl lo ep mk ts ta aa ax ap (d + 1) (rt_gl (rt_ou sd dl) s) (nI s) := by
  intro d
  induction d with
  | zero =>
    intro s h
    obtain rfl : s = 64 := by omega
    exact br_t rt_64e hp
  | succ d ih =>
    intro s h
    have k := ih (s + 1) (by omega)
    refine br_f (rt_64 s (by omega)) (ya_out (by omega) (rt_br _ (fun e => ?_) (fun e => ?_)))
    · rw [rt_gl_f e] at k; exact nm_r (nI_1 s) k
    · rw [rt_gl_t e] at k; exact nm_r (nI_1 s) k
theorem la_pb (hI : rt_IV nx wr tc rp sh rm rx ry hr dc bs re sd la dl lo ts fl rb aa ax ap) : ∃ (t : Nat) (u : SX) (v : SY), (∀ P : SX → Prop, P u → wpX_probe P (ir, nw, cw, ss, ct, sa, nI wr, nI nx, nI tc, ms, sr, rv, mr, rx, rr, nI rm, nI sh, am, tp, pc, ps, ur, nI rp, rt, ds, un, tl, ro, lm, bs, re, sd, la, dl, lo, ep, ts, fl, ta)) ∧ (∀ (P : SY → Prop) (w : SY), (∀ Q : SY → Prop, Q w → wpY_send Q v) → P w → wpY_fire P (ir, nI wr, nI tc, nw, cw, ss, ct, sa, nI nx, sr, rv, mr, ry, rr, nI rm, nI sh, am, pc, ps, ur, nI rp, rt, ds, un, tl, ro, lm, dc, ms, ms, hr, tp, bs, rb, re, sd, la, dl, lo, ep, mk, ts, ta, aa, ax, ap) 2) ∧ rt_RL t u v := by
  have hI0 := hI
  obtain ⟨⟨n1, n2, n3, n4, n5, n6⟩, hS, hZl, hZd, hZr, hL, hT, hK, hF, hB, hC⟩ := hI0
  have hx : nx ≤ 64 := by omega
  obtain ⟨dd, hdd⟩ : ∃ d, 64 = nx + d := ⟨64 - nx, by omega⟩
  rcases Nat.lt_or_ge nx wr with h | h
  · obtain ⟨t, u, v, hX, hY, R⟩ := ld_pr (wr := wr) (nx := nx) (tc := tc) (rm := rm) (sh := sh) (rp := rp) (ir := ir) (nw := nw) (cw := cw) (ss := ss) (ct := ct) (sa := sa) (ms := ms) (sr := sr) (rv := rv) (mr := mr) (rx := rx) (rr := rr) (am := am) (tp := tp) (pc := pc) (ps := ps) (ur := ur) (rt := rt) (ds := ds) (un := un) (ro := ro) (lm := lm) (ry := ry) (hr := hr) (dc := dc) (bs := bs) (re := re) (sd := sd) (la := la) (dl := dl) (lo := lo) (ep := ep) (ts := ts) (fl := fl) (ta := ta) (rb := rb) (mk := mk) (aa := aa) (ax := ax) (ap := ap) (tl := tl + 1) (x := nI nx) hI (Or.inr ⟨nx, Nat.le_refl _, h, rfl⟩)
    have z : ¬ nI wr ≤ nI nx := nI_ge h (by omega)
    exact ⟨t, u, v, fun P hp => nm_e (br_f z (hX P hp)), fun P w hs hp => br_f (by decide) (br_t rfl (nm_e (br_f z (hY P w hs hp)))), R⟩
  · have e2 : rt_gl (rt_ou sd dl) 64 = rt_gl (rt_ou sd dl) nx := by rw [hdd]; exact rt_gl_hi (rt_IS_ou hS dl) dd
    obtain ⟨t, u, v, hX, hY, R⟩ := ld_pr (wr := wr) (nx := nx) (tc := tc) (rm := rm) (sh := sh) (rp := rp) (ir := ir) (nw := nw) (cw := cw) (ss := ss) (ct := ct) (sa := sa) (ms := ms) (sr := sr) (rv := rv) (mr := mr) (rx := rx) (rr := rr) (am := am) (tp := tp) (pc := pc) (ps := ps) (ur := ur) (rt := rt) (ds := ds) (un := un) (ro := ro) (lm := lm) (ry := ry) (hr := hr) (dc := dc) (bs := bs) (re := re) (sd := sd) (la := la) (dl := dl) (lo := lo) (ep := ep) (ts := ts) (fl := fl) (ta := ta) (rb := rb) (mk := mk) (aa := aa) (ax := ax) (ap := ap) (tl := tl + 1) (x := rt_gl (rt_ou sd dl) nx) hI ((rt_gl_or (rt_ou sd dl) nx).elim Or.inl (fun ⟨j, hj, _, e⟩ => Or.inr ⟨j, by omega, by omega, e⟩))
    have z : nI wr ≤ nI nx := nI_le h (by omega)
    refine ⟨t, u, v, fun P hp => nm_e (br_t z (xa_go hx (hX P hp))), fun P w hs hp => br_f (by decide) (br_t rfl (nm_e (br_t z ⟨65, ?_⟩))), R⟩
    have k := hY P w hs hp
    rw [← e2] at k
    exact yd_go_l k 64 0 (by omega)
theorem la_fi {K : Int32} (hI : rt_IV nx wr tc rp sh rm rx ry hr dc bs re sd la dl lo ts fl rb aa ax ap) (hk : K = 1 ∨ K = 2 ∨ K = 3) : ∃ (t : Nat) (u : SX) (v : SY), (∀ P : SX → Prop, P u → wpX_fire P (ir, nw, cw, ss, ct, sa, nI wr, nI nx, nI tc, ms, sr, rv, mr, rx, rr, nI rm, nI sh, am, tp, pc, ps, ur, nI rp, rt, ds, un, tl, ro, lm, bs, re, sd, la, dl, lo, ep, ts, fl, ta) K) ∧ (∀ P : SY → Prop, P v → wpY_fire P (ir, nI wr, nI tc, nw, cw, ss, ct, sa, nI nx, sr, rv, mr, ry, rr, nI rm, nI sh, am, pc, ps, ur, nI rp, rt, ds, un, tl, ro, lm, dc, ms, ms, hr, tp, bs, rb, re, sd, la, dl, lo, ep, mk, ts, ta, aa, ax, ap) K) ∧ rt_RL t u v := by
  rcases hk with rfl | rfl | rfl
  · obtain ⟨u1, v1, hX, hY, R⟩ := la_dt (wr := wr) (nx := nx) (tc := tc) (rm := rm) (sh := sh) (rp := rp) (ir := ir) (nw := nw) (cw := cw) (ss := ss) (ct := ct) (sa := sa) (ms := ms) (sr := sr) (rv := rv) (mr := mr) (rx := rx) (rr := rr) (am := am) (tp := tp) (pc := pc) (ps := ps) (ur := ur) (rt := rt) (ds := ds) (un := un) (tl := tl) (ro := ro) (lm := lm) (ry := ry) (hr := hr) (dc := dc) (bs := bs) (re := re) (sd := sd) (la := la) (dl := dl) (lo := lo) (ep := ep) (ts := ts) (fl := fl) (ta := ta) (rb := rb) (mk := mk) (aa := aa) (ax := ax) (ap := ap) hI
    obtain ⟨wr', nx', rm', sh', rp', ir', nw', cw', ss', ct', sa', ms', sr', rv', mr', rx', rr', am', tp', pc', ps', ur', rt', ds', un', tl', ro', lm', ry', hr', dc', bs', re', sd', la', dl', lo', ep', ts', fl', ta', rb', mk', aa', ax', ap', rfl, rfl, hI'⟩ := R
    obtain ⟨t, u, v, kX, kY, R'⟩ := la_sd (wr := wr') (nx := nx') (rm := rm') (sh := sh') (rp := rp') (ir := ir') (nw := nw') (cw := cw') (ss := ss') (ct := ct') (sa := sa') (ms := ms') (sr := sr') (rv := rv') (mr := mr') (rx := rx') (rr := rr') (am := am') (tp := tp') (pc := pc') (ps := ps') (ur := ur') (rt := rt') (ds := ds') (un := un') (tl := tl') (ro := ro') (lm := lm') (ry := ry') (hr := hr') (dc := dc') (bs := bs') (re := re') (sd := sd') (la := la') (dl := dl') (lo := lo') (ep := ep') (ts := ts') (fl := fl') (ta := ta') (rb := rb') (mk := mk') (aa := aa') (ax := ax') (ap := ap') hI'
    obtain ⟨wq, nq, rq, sq, pq, irq, nwq, cwq, ssq, ctq, saq, msq, srq, rvq, mrq, rxq, rrq, amq, tpq, pcq, psq, urq, rtq, dsq, unq, tlq, roq, lmq, ryq, hrq, dcq, bsq, req, sdq, laq, dlq, loq, epq, tsq, flq, taq, rbq, mkq, aaq, axq, apq, rfl, rfl, hq⟩ := R'
    exact ⟨t, _, _, fun P hp => br_t rfl (hX _ (kX _ hp)), fun P hp => br_t rfl (hY _ (kY _ hp)), ⟨wq, nq, rq, sq, pq, irq, nwq, cwq, ssq, ctq, saq, msq, srq, rvq, mrq, rxq, rrq, amq, tpq, pcq, psq, urq, rtq, dsq, unq, tlq, roq, lmq, ryq, hrq, dcq, bsq, req, sdq, laq, dlq, loq, epq, tsq, flq, taq, rbq, mkq, aaq, axq, apq, rfl, rfl, hq⟩⟩
  · obtain ⟨t1, u1, v1, hX, hY, R⟩ := la_pb (wr := wr) (nx := nx) (tc := tc) (rm := rm) (sh := sh) (rp := rp) (ir := ir) (nw := nw) (cw := cw) (ss := ss) (ct := ct) (sa := sa) (ms := ms) (sr := sr) (rv := rv) (mr := mr) (rx := rx) (rr := rr) (am := am) (tp := tp) (pc := pc) (ps := ps) (ur := ur) (rt := rt) (ds := ds) (un := un) (tl := tl) (ro := ro) (lm := lm) (ry := ry) (hr := hr) (dc := dc) (bs := bs) (re := re) (sd := sd) (la := la) (dl := dl) (lo := lo) (ep := ep) (ts := ts) (fl := fl) (ta := ta) (rb := rb) (mk := mk) (aa := aa) (ax := ax) (ap := ap) hI
    obtain ⟨wr', nx', rm', sh', rp', ir', nw', cw', ss', ct', sa', ms', sr', rv', mr', rx', rr', am', tp', pc', ps', ur', rt', ds', un', tl', ro', lm', ry', hr', dc', bs', re', sd', la', dl', lo', ep', ts', fl', ta', rb', mk', aa', ax', ap', rfl, rfl, hI'⟩ := R
    obtain ⟨t, u, v, kX, kY, R'⟩ := la_sd (wr := wr') (nx := nx') (rm := rm') (sh := sh') (rp := rp') (ir := ir') (nw := nw') (cw := cw') (ss := ss') (ct := ct') (sa := sa') (ms := ms') (sr := sr') (rv := rv') (mr := mr') (rx := rx') (rr := rr') (am := am') (tp := tp') (pc := pc') (ps := ps') (ur := ur') (rt := rt') (ds := ds') (un := un') (tl := tl') (ro := ro') (lm := lm') (ry := ry') (hr := hr') (dc := dc') (bs := bs') (re := re') (sd := sd') (la := la') (dl := dl') (lo := lo') (ep := ep') (ts := ts') (fl := fl') (ta := ta') (rb := rb') (mk := mk') (aa := aa') (ax := ax') (ap := ap') hI'
    obtain ⟨wq, nq, rq, sq, pq, irq, nwq, cwq, ssq, ctq, saq, msq, srq, rvq, mrq, rxq, rrq, amq, tpq, pcq, psq, urq, rtq, dsq, unq, tlq, roq, lmq, ryq, hrq, dcq, bsq, req, sdq, laq, dlq, loq, epq, tsq, flq, taq, rbq, mkq, aaq, axq, apq, rfl, rfl, hq⟩ := R'
    exact ⟨t, _, _, fun P hp => br_f (by decide) (br_t rfl (hX _ (kX _ hp))), fun P hp => hY P _ kY hp, ⟨wq, nq, rq, sq, pq, irq, nwq, cwq, ssq, ctq, saq, msq, srq, rvq, mrq, rxq, rrq, amq, tpq, pcq, psq, urq, rtq, dsq, unq, tlq, roq, lmq, ryq, hrq, dcq, bsq, req, sdq, laq, dlq, loq, epq, tsq, flq, taq, rbq, mkq, aaq, axq, apq, rfl, rfl, hq⟩⟩
  · obtain ⟨u1, v1, hX, hY, R⟩ := la_to (wr := wr) (nx := nx) (tc := tc) (rm := rm) (sh := sh) (rp := rp) (ir := ir) (nw := nw) (cw := cw) (ss := ss) (ct := ct) (sa := sa) (ms := ms) (sr := sr) (rv := rv) (mr := mr) (rx := rx) (rr := rr) (am := am) (tp := tp) (pc := pc) (ps := ps) (ur := ur) (rt := rt) (ds := ds) (un := un) (tl := tl) (ro := ro) (lm := lm) (ry := ry) (hr := hr) (dc := dc) (bs := bs) (re := re) (sd := sd) (la := la) (dl := dl) (lo := lo) (ep := ep) (ts := ts) (fl := fl) (ta := ta) (rb := rb) (mk := mk) (aa := aa) (ax := ax) (ap := ap) hI
    obtain ⟨wr', nx', rm', sh', rp', ir', nw', cw', ss', ct', sa', ms', sr', rv', mr', rx', rr', am', tp', pc', ps', ur', rt', ds', un', tl', ro', lm', ry', hr', dc', bs', re', sd', la', dl', lo', ep', ts', fl', ta', rb', mk', aa', ax', ap', rfl, rfl, hI'⟩ := R
    obtain ⟨t, u, v, kX, kY, R'⟩ := la_sd (wr := wr') (nx := nx') (rm := rm') (sh := sh') (rp := rp') (ir := ir') (nw := nw') (cw := cw') (ss := ss') (ct := ct') (sa := sa') (ms := ms') (sr := sr') (rv := rv') (mr := mr') (rx := rx') (rr := rr') (am := am') (tp := tp') (pc := pc') (ps := ps') (ur := ur') (rt := rt') (ds := ds') (un := un') (tl := tl') (ro := ro') (lm := lm') (ry := ry') (hr := hr') (dc := dc') (bs := bs') (re := re') (sd := sd') (la := la') (dl := dl') (lo := lo') (ep := ep') (ts := ts') (fl := fl') (ta := ta') (rb := rb') (mk := mk') (aa := aa') (ax := ax') (ap := ap') hI'
    obtain ⟨wq, nq, rq, sq, pq, irq, nwq, cwq, ssq, ctq, saq, msq, srq, rvq, mrq, rxq, rrq, amq, tpq, pcq, psq, urq, rtq, dsq, unq, tlq, roq, lmq, ryq, hrq, dcq, bsq, req, sdq, laq, dlq, loq, epq, tsq, flq, taq, rbq, mkq, aaq, axq, apq, rfl, rfl, hq⟩ := R'
    exact ⟨t, _, _, fun P hp => br_f (by decide) (br_f (by decide) (hX _ (kX _ hp))), fun P hp => hY P _ kY hp, ⟨wq, nq, rq, sq, pq, irq, nwq, cwq, ssq, ctq, saq, msq, srq, rvq, mrq, rxq, rrq, amq, tpq, pcq, psq, urq, rtq, dsq, unq, tlq, roq, lmq, ryq, hrq, dcq, bsq, req, sdq, laq, dlq, loq, epq, tsq, flq, taq, rbq, mkq, aaq, axq, apq, rfl, rfl, hq⟩⟩
end
theorem la_tk_l {g : Int32} : ∀ d : Nat, ∀ (wr nx tc rm sh rp : Nat) (ir nw cw ss ct sa ms sr rv mr rx rr am tp pc ps ur rt ds un tl ro lm ry hr dc : Int32) (bs re sd la dl lo ep ts fl ta rb mk aa ax ap : Nat → Int32), rt_IV nx wr tc rp sh rm rx ry hr dc bs re sd la dl lo ts fl rb aa ax ap → ∀ f : Nat, f + d = 64 → ∃ (t : Nat) (r : Int32) (u : SX) (v : SY), (∀ (P : Int32 → SX → Prop) (n : Nat), P r u → d < n → wX_tick_16 P g n (nI f) ir nw cw ss ct sa (nI wr) (nI nx) (nI tc) ms sr rv mr rx rr (nI rm) (nI sh) am tp pc ps ur (nI rp) rt ds un tl ro lm bs re sd la dl lo ep ts fl ta) ∧ (∀ (P : Int32 → SY → Prop) (n : Nat), P r v → d < n → wY_tick_32 P g n (nI f) (nI f) ir (nI wr) (nI tc) nw cw ss ct sa (nI nx) sr rv mr ry rr (nI rm) (nI sh) am pc ps ur (nI rp) rt ds un tl ro lm dc ms ms hr tp bs rb re sd la dl lo ep mk ts ta aa ax ap) ∧ rt_RL t u v := by
  intro d
  induction d with
  | zero =>
    intro wr nx tc rm sh rp ir nw cw ss ct sa ms sr rv mr rx rr am tp pc ps ur rt ds un tl ro lm ry hr dc bs re sd la dl lo ep ts fl ta rb mk aa ax ap hI f hf
    obtain rfl : f = 64 := by omega
    refine ⟨tc, nI 64, (ir, g, cw, ss, ct, sa, nI wr, nI nx, nI tc, ms, sr, rv, mr, rx, rr, nI rm, nI sh, am, tp, pc, ps, ur, nI rp, rt, ds, un, tl, ro, lm, bs, re, sd, la, dl, lo, ep, ts, fl, ta), (ir, nI wr, nI tc, g, cw, ss, ct, sa, nI nx, sr, rv, mr, ry, rr, nI rm, nI sh, am, pc, ps, ur, nI rp, rt, ds, un, tl, ro, lm, dc, ms, ms, hr, tp, bs, rb, re, sd, la, dl, lo, ep, mk, ts, ta, aa, ax, ap), fun P n hp hn => ?_, fun P n hp hn => ?_, rt_RLi hI⟩
    · obtain ⟨m, rfl⟩ : ∃ m, n = m + 1 := ⟨n - 1, by omega⟩
      exact br_t rt_64e hp
    · obtain ⟨m, rfl⟩ : ∃ m, n = m + 1 := ⟨n - 1, by omega⟩
      exact br_t rt_64e hp
  | succ d ih =>
    intro wr nx tc rm sh rp ir nw cw ss ct sa ms sr rv mr rx rr am tp pc ps ur rt ds un tl ro lm ry hr dc bs re sd la dl lo ep ts fl ta rb mk aa ax ap hI f hf
    have f6 := rt_64 f (by omega)
    obtain ⟨K, A, hK, xk, xt, yk, yt⟩ := la_tm (wr := wr) (nx := nx) (tc := tc) (rm := rm) (sh := sh) (rp := rp) (ir := ir) (nw := nw) (cw := cw) (ss := ss) (ct := ct) (sa := sa) (ms := ms) (sr := sr) (rv := rv) (mr := mr) (rx := rx) (rr := rr) (am := am) (tp := tp) (pc := pc) (ps := ps) (ur := ur) (rt := rt) (ds := ds) (un := un) (tl := tl) (ro := ro) (lm := lm) (ry := ry) (hr := hr) (dc := dc) (bs := bs) (re := re) (sd := sd) (la := la) (dl := dl) (lo := lo) (ep := ep) (ts := ts) (fl := fl) (ta := ta) (rb := rb) (mk := mk) (aa := aa) (ax := ax) (ap := ap) hI
    by_cases k0 : K = 0
    · refine ⟨tc, nI f, (ir, g, cw, ss, ct, sa, nI wr, nI nx, nI tc, ms, sr, rv, mr, rx, rr, nI rm, nI sh, am, tp, pc, ps, ur, nI rp, rt, ds, un, tl, ro, lm, bs, re, sd, la, dl, lo, ep, ts, fl, ta), (ir, nI wr, nI tc, g, cw, ss, ct, sa, nI nx, sr, rv, mr, ry, rr, nI rm, nI sh, am, pc, ps, ur, nI rp, rt, ds, un, tl, ro, lm, dc, ms, ms, hr, tp, bs, rb, re, sd, la, dl, lo, ep, mk, ts, ta, aa, ax, ap), fun P n hp hn => ?_, fun P n hp hn => ?_, rt_RLi hI⟩
      · obtain ⟨m, rfl⟩ : ∃ m, n = m + 1 := ⟨n - 1, by omega⟩
        exact br_f f6 (xk _ (xt _ (br_t k0 hp)))
      · obtain ⟨m, rfl⟩ : ∃ m, n = m + 1 := ⟨n - 1, by omega⟩
        exact br_f f6 (yk _ (br_t k0 hp))
    by_cases a0 : A ≤ g
    · obtain ⟨t1, u1, v1, hX, hY, R⟩ := la_fi (wr := wr) (nx := nx) (tc := tc) (rm := rm) (sh := sh) (rp := rp) (ir := ir) (cw := cw) (ss := ss) (ct := ct) (sa := sa) (ms := ms) (sr := sr) (rv := rv) (mr := mr) (rx := rx) (rr := rr) (am := am) (tp := tp) (pc := pc) (ps := ps) (ur := ur) (rt := rt) (ds := ds) (un := un) (tl := tl) (ro := ro) (lm := lm) (ry := ry) (hr := hr) (dc := dc) (bs := bs) (re := re) (sd := sd) (la := la) (dl := dl) (lo := lo) (ep := ep) (ts := ts) (fl := fl) (ta := ta) (rb := rb) (mk := mk) (aa := aa) (ax := ax) (ap := ap) (nw := rt_mx nw A) (K := K) hI (hK.elim (fun e => absurd e k0) id)
      obtain ⟨wr', nx', rm', sh', rp', ir', nw', cw', ss', ct', sa', ms', sr', rv', mr', rx', rr', am', tp', pc', ps', ur', rt', ds', un', tl', ro', lm', ry', hr', dc', bs', re', sd', la', dl', lo', ep', ts', fl', ta', rb', mk', aa', ax', ap', rfl, rfl, hI'⟩ := R
      obtain ⟨t, r, u, v, kX, kY, R'⟩ := ih wr' nx' t1 rm' sh' rp' ir' nw' cw' ss' ct' sa' ms' sr' rv' mr' rx' rr' am' tp' pc' ps' ur' rt' ds' un' tl' ro' lm' ry' hr' dc' bs' re' sd' la' dl' lo' ep' ts' fl' ta' rb' mk' aa' ax' ap' hI' (f + 1) (by omega)
      refine ⟨t, r, u, v, fun P n hp hn => ?_, fun P n hp hn => ?_, R'⟩
      · obtain ⟨m, rfl⟩ : ∃ m, n = m + 1 := ⟨n - 1, by omega⟩
        exact br_f f6 (xk _ (xt _ (br_f k0 (br_t a0 (xa_larger (hX _ (nm_r (nI_1 f) (kX P m hp (by omega)))))))))
      · obtain ⟨m, rfl⟩ : ∃ m, n = m + 1 := ⟨n - 1, by omega⟩
        refine br_f f6 (yk _ (br_f k0 (yt _ (br_t a0 ?_))))
        refine br_c (fun z => ?_) (fun z => ?_)
        · rw [rt_mx_g z] at hY
          exact hY _ (nm_r (nI_1 f) (nm_r (nI_1 f) (kY P m hp (by omega))))
        · rw [rt_mx_l (rt_nle z)] at hY
          exact hY _ (nm_r (nI_1 f) (nm_r (nI_1 f) (kY P m hp (by omega))))
    · refine ⟨tc, nI f, (ir, g, cw, ss, ct, sa, nI wr, nI nx, nI tc, ms, sr, rv, mr, rx, rr, nI rm, nI sh, am, tp, pc, ps, ur, nI rp, rt, ds, un, tl, ro, lm, bs, re, sd, la, dl, lo, ep, ts, fl, ta), (ir, nI wr, nI tc, g, cw, ss, ct, sa, nI nx, sr, rv, mr, ry, rr, nI rm, nI sh, am, pc, ps, ur, nI rp, rt, ds, un, tl, ro, lm, dc, ms, ms, hr, tp, bs, rb, re, sd, la, dl, lo, ep, mk, ts, ta, aa, ax, ap), fun P n hp hn => ?_, fun P n hp hn => ?_, rt_RLi hI⟩
      · obtain ⟨m, rfl⟩ : ∃ m, n = m + 1 := ⟨n - 1, by omega⟩
        exact br_f f6 (xk _ (xt _ (br_f k0 (br_f a0 hp))))
      · obtain ⟨m, rfl⟩ : ∃ m, n = m + 1 := ⟨n - 1, by omega⟩
        exact br_f f6 (yk _ (br_f k0 (yt _ (br_f a0 hp))))
end
section
/-! what an acknowledgement tells, in lockstep -/
def rt_A2 (post : SY → Prop) (x1 x2 : Int32) (v : SY) : Prop := match v with
  | (ir_, wr_, tc_, nw_, cw_, ss_, ct_, sa_, nx_, sr_, rv_, mr_, ry_, rr_, rm_, sh_, am_, pc_, ps_, ur_, rp_, rt_, ds_, un_, tl_, ro_, lm_, dc_, ms_, mm_, hr_, tp_, bs_, rb_, re_, sd_, la_, dl_, lo_, ep_, mk_, ts_, ta_, aa_, ax_, ap_) => wY_ack_202 post x1 x2 ir_ wr_ tc_ nw_ cw_ ss_ ct_ sa_ nx_ sr_ rv_ mr_ ry_ rr_ rm_ sh_ am_ pc_ ps_ ur_ rp_ rt_ ds_ un_ tl_ ro_ lm_ dc_ ms_ mm_ hr_ tp_ bs_ rb_ re_ sd_ la_ dl_ lo_ ep_ mk_ ts_ ta_ aa_ ax_ ap_
def rt_A9 (post : SY → Prop) (v : SY) : Prop := match v with
  | (ir_, wr_, tc_, nw_, cw_, ss_, ct_, sa_, nx_, sr_, rv_, mr_, ry_, rr_, rm_, sh_, am_, pc_, ps_, ur_, rp_, rt_, ds_, un_, tl_, ro_, lm_, dc_, ms_, mm_, hr_, tp_, bs_, rb_, re_, sd_, la_, dl_, lo_, ep_, mk_, ts_, ta_, aa_, ax_, ap_) => wY_ack_289 post ir_ wr_ tc_ nw_ cw_ ss_ ct_ sa_ nx_ sr_ rv_ mr_ ry_ rr_ rm_ sh_ am_ pc_ ps_ ur_ rp_ rt_ ds_ un_ tl_ ro_ lm_ dc_ ms_ mm_ hr_ tp_ bs_ rb_ re_ sd_ la_ dl_ lo_ ep_ mk_ ts_ ta_ aa_ ax_ ap_
theorem rt_IC_u {dl : Nat → Int32} {dc : Int32} {s : Nat} (h : rt_IC dl dc) (hs : s < 64) (h0 : dl s = 0) : rt_IC (upd dl s 1) (dc + 1) := by
  unfold rt_IC at *
  rw [h, nI_1, rt_cn_up (c := rt_nz dl) (c' := rt_nz (upd dl s 1)) (rt_nz_f h0) (rt_nz_t (by rw [pk_us]; decide)) (fun i hi => by unfold rt_nz; rw [pk_un hi]) 64 hs]
section
variable {ir nw cw ss ct sa ms sr rv mr rx rr am tp pc ps ur rt ds un tl ro lm : Int32} {wr nx tc rm sh rp : Nat} {bs re sd la dl lo ep ts fl ta : Nat → Int32} {ry hr dc : Int32} {rb mk aa ax ap : Nat → Int32} {s : Nat}
theorem ld_2 {r : Int32} (hs : s < 64) (hL : rt_IL la) (hK : rt_IK rx ry hr) : ∃ rx' rr' ry' hr' : Int32, rt_IK rx' ry' hr' ∧ (∀ P : SX → Prop, wX_learnArrival_109 P ir nw cw ss ct sa (nI wr) (nI nx) (nI tc) ms sr rv mr rx' rr' (nI rm) (nI sh) am tp pc ps ur (nI rp) rt ds un tl ro lm bs re sd la dl lo ep ts fl ta → wX_learnArrival_46 P (nI s) r ir nw cw ss ct sa (nI wr) (nI nx) (nI tc) ms sr rv mr rx rr (nI rm) (nI sh) am tp pc ps ur (nI rp) rt ds un tl ro lm bs re sd la dl lo ep ts fl ta) ∧ (∀ (P : SY → Prop) (J : Int32 → Int32 → Int32 → Int32 → Int32 → Int32 → Int32 → Int32 → Int32 → Int32 → Int32 → Int32 → Int32 → Int32 → Int32 → Int32 → Int32 → Int32 → Int32 → Int32 → Int32 → Int32 → Int32 → Int32 → Int32 → Int32 → Int32 → Int32 → Int32 → Int32 → Int32 → Int32 → Int32 → Int32 → (Nat → Int32) → (Nat → Int32) → (Nat → Int32) → (Nat → Int32) → (Nat → Int32) → (Nat → Int32) → (Nat → Int32) → (Nat → Int32) → (Nat → Int32) → (Nat → Int32) → (Nat → Int32) → (Nat → Int32) → (Nat → Int32) → (Nat → Int32) → Prop) (x1 x2 x3 : Int32), wY_ack_170 P J x1 x2 x3 (nI s) ir (nI wr) (nI tc) nw cw ss ct sa (nI nx) sr rv mr ry' rr' (nI rm) (nI sh) am pc ps ur (nI rp) rt ds un tl ro lm dc ms ms hr' tp bs rb re sd la dl lo ep mk ts ta aa ax ap → wY_ack_100 P J x1 x2 x3 (nI s) r ir (nI wr) (nI tc) nw cw ss ct sa (nI nx) sr rv mr ry rr (nI rm) (nI sh) am pc ps ur (nI rp) rt ds un tl ro lm dc ms ms hr tp bs rb re sd la dl lo ep mk ts ta aa ax ap) := by
  have hG := rt_IK_gt hK hL s
  -- the last part: is it the latest?
  have L : ∃ rx' rr' ry' hr' : Int32, rt_IK rx' ry' hr' ∧ (∀ P : SX → Prop, wX_learnArrival_109 P ir nw cw ss ct sa (nI wr) (nI nx) (nI tc) ms sr rv mr rx' rr' (nI rm) (nI sh) am tp pc ps ur (nI rp) rt ds un tl ro lm bs re sd la dl lo ep ts fl ta → wX_learnArrival_76 P (nI s) r 0 ir nw cw ss ct sa (nI wr) (nI nx) (nI tc) ms sr rv mr rx rr (nI rm) (nI sh) am tp pc ps ur (nI rp) rt ds un tl ro lm bs re sd la dl lo ep ts fl ta) ∧ (∀ (P : SY → Prop) (J : Int32 → Int32 → Int32 → Int32 → Int32 → Int32 → Int32 → Int32 → Int32 → Int32 → Int32 → Int32 → Int32 → Int32 → Int32 → Int32 → Int32 → Int32 → Int32 → Int32 → Int32 → Int32 → Int32 → Int32 → Int32 → Int32 → Int32 → Int32 → Int32 → Int32 → Int32 → Int32 → Int32 → Int32 → (Nat → Int32) → (Nat → Int32) → (Nat → Int32) → (Nat → Int32) → (Nat → Int32) → (Nat → Int32) → (Nat → Int32) → (Nat → Int32) → (Nat → Int32) → (Nat → Int32) → (Nat → Int32) → (Nat → Int32) → (Nat → Int32) → (Nat → Int32) → Prop) (x1 x2 x3 : Int32), wY_ack_170 P J x1 x2 x3 (nI s) ir (nI wr) (nI tc) nw cw ss ct sa (nI nx) sr rv mr ry' rr' (nI rm) (nI sh) am pc ps ur (nI rp) rt ds un tl ro lm dc ms ms hr' tp bs rb re sd la dl lo ep mk ts ta aa ax ap → wY_ack_127 P J x1 x2 x3 (nI s) r ir (nI wr) (nI tc) nw cw ss ct sa (nI nx) sr rv mr ry rr (nI rm) (nI sh) am pc ps ur (nI rp) rt ds un tl ro lm dc ms ms hr tp bs rb re sd la dl lo ep mk ts ta aa ax ap) := by
    by_cases z : rx < la s
    · refine ⟨la s, r, la s, 1, Or.inr ⟨by decide, rfl⟩, fun P hp => br_t rfl ⟨rt_in hs, br_f (by rw [rt_cp (by omega)]; exact Int32.not_le.mpr z) ⟨rt_in hs, nm_r (rt_at (by omega)) hp⟩⟩, fun P J x1 x2 x3 hp => ?_⟩
      have B : wY_ack_148 P J x1 x2 x3 (nI s) r ir (nI wr) (nI tc) nw cw ss ct sa (nI nx) sr rv mr ry rr (nI rm) (nI sh) am pc ps ur (nI rp) rt ds un tl ro lm dc ms ms hr tp bs rb re sd la dl lo ep mk ts ta aa ax ap := ⟨rt_in hs, nm_r (rt_at (by omega)) hp⟩
      by_cases h0 : hr = 0
      · exact br_t h0 B
      · exact br_f h0 ⟨rt_in hs, br_f (by rw [rt_cp (by omega)]; exact Int32.not_le.mpr ((hG.mp z).elim (fun y => absurd y h0) id)) B⟩
    · have h0 : ¬ hr = 0 := fun y => z (hG.mpr (Or.inl y))
      refine ⟨rx, rr, ry, hr, hK, fun P hp => br_t rfl ⟨rt_in hs, br_t (by rw [rt_cp (by omega)]; exact Int32.not_lt.mp z) hp⟩, fun P J x1 x2 x3 hp => br_f h0 ⟨rt_in hs, br_t (by rw [rt_cp (by omega)]; exact Int32.not_lt.mp (fun y => z (hG.mpr (Or.inr y)))) hp⟩⟩
  obtain ⟨rx', rr', ry', hr', hK', hX, hY⟩ := L
  by_cases s1 : sd s ≤ 1
  · exact ⟨rx', rr', ry', hr', hK', fun P hp => ⟨rt_in hs, br_t (by rw [rt_cp (by omega)]; exact s1) (hX P hp)⟩, fun P J x1 x2 x3 hp => ⟨rt_in hs, br_t (by rw [rt_cp (by omega)]; exact s1) (hY P J x1 x2 x3 hp)⟩⟩
  by_cases m0 : ms = 0
  · exact ⟨rx', rr', ry', hr', hK', fun P hp => ⟨rt_in hs, br_f (by rw [rt_cp (by omega)]; exact s1) (br_t m0 (hX P hp))⟩, fun P J x1 x2 x3 hp => ⟨rt_in hs, br_f (by rw [rt_cp (by omega)]; exact s1) (br_t m0 (hY P J x1 x2 x3 hp))⟩⟩
  by_cases m1 : mr ≤ r
  · exact ⟨rx', rr', ry', hr', hK', fun P hp => ⟨rt_in hs, br_f (by rw [rt_cp (by omega)]; exact s1) (br_f m0 (br_t m1 (hX P hp)))⟩, fun P J x1 x2 x3 hp => ⟨rt_in hs, br_f (by rw [rt_cp (by omega)]; exact s1) (br_f m0 (br_f (Int32.not_lt.mpr m1) (hY P J x1 x2 x3 hp)))⟩⟩
  · exact ⟨rx, rr, ry, hr, hK, fun P hp => ⟨rt_in hs, br_f (by rw [rt_cp (by omega)]; exact s1) (br_f m0 (br_f m1 (br_f (by decide) hp)))⟩, fun P J x1 x2 x3 hp => ⟨rt_in hs, br_f (by rw [rt_cp (by omega)]; exact s1) (br_f m0 (br_t (Int32.not_le.mp m1) hp))⟩⟩
theorem ld_1 (hs : s < 64) (hL : rt_IL la) (hre : ¬ re s = 0) (hdl : dl s = 0) : ∃ ms' sr' rv' mr' : Int32, (∀ P : SX → Prop, wX_learnArrival_46 P (nI s) (nw - ta (la s).toNatClampNeg) ir nw cw ss ct sa (nI wr) (nI nx) (nI tc) ms' sr' rv' mr' rx rr (nI rm) (nI sh) am tp pc ps ur (nI rp) rt ds un tl ro lm bs re sd la (upd dl s 1) (upd lo s 0) ep ts fl ta → wpX_learnArrival P (ir, nw, cw, ss, ct, sa, nI wr, nI nx, nI tc, ms, sr, rv, mr, rx, rr, nI rm, nI sh, am, tp, pc, ps, ur, nI rp, rt, ds, un, tl, ro, lm, bs, re, sd, la, dl, lo, ep, ts, fl, ta) (nI s)) ∧ (∀ (P : SY → Prop) (x1 x2 x3 : Int32) (n : Nat), wY_ack_100 P (wY_ack_5 P x1 x2 n) x1 x2 (x3 + 1) (nI s) (nw - ta (la s).toNatClampNeg) ir (nI wr) (nI tc) nw cw ss ct sa (nI nx) sr' rv' mr' ry rr (nI rm) (nI sh) am pc ps ur (nI rp) rt ds un tl ro lm (dc + 1) ms' ms' hr tp bs rb re sd la (upd dl s 1) (upd lo s 0) ep mk ts ta aa ax ap → wY_ack_5 P x1 x2 (n + 1) x3 (nI s) ir (nI wr) (nI tc) nw cw ss ct sa (nI nx) sr rv mr ry rr (nI rm) (nI sh) am pc ps ur (nI rp) rt ds un tl ro lm dc ms ms hr tp bs rb re sd la dl lo ep mk ts ta aa ax ap) := by
  have X0 : ∀ P : SX → Prop, ((sd s = 1 → wpX_sample (fun u => match u with | (ir_, nw_, cw_, ss_, ct_, sa_, wr_, nx_, tc_, ms_, sr_, rv_, mr_, rx_, rr_, rm_, sh_, am_, tp_, pc_, ps_, ur_, rp_, rt_, ds_, un_, tl_, ro_, lm_, bs_, re_, sd_, la_, dl_, lo_, ep_, ts_, fl_, ta_) => wX_learnArrival_46 P (nI s) (nw - ta (la s).toNatClampNeg) ir_ nw_ cw_ ss_ ct_ sa_ wr_ nx_ tc_ ms_ sr_ rv_ mr_ rx_ rr_ rm_ sh_ am_ tp_ pc_ ps_ ur_ rp_ rt_ ds_ un_ tl_ ro_ lm_ bs_ re_ sd_ la_ dl_ lo_ ep_ ts_ fl_ ta_) (ir, nw, cw, ss, ct, sa, nI wr, nI nx, nI tc, ms, sr, rv, mr, rx, rr, nI rm, nI sh, am, tp, pc, ps, ur, nI rp, rt, ds, un, tl, ro, lm, bs, re, sd, la, upd dl s 1, upd lo s 0, ep, ts, fl, ta) (nw - ta (la s).toNatClampNeg)) ∧ (¬ sd s = 1 → wX_learnArrival_46 P (nI s) (nw - ta (la s).toNatClampNeg) ir nw cw ss ct sa (nI wr) (nI nx) (nI tc) ms sr rv mr rx rr (nI rm) (nI sh) am tp pc ps ur (nI rp) rt ds un tl ro lm bs re sd la (upd dl s 1) (upd lo s 0) ep ts fl ta)) → wpX_learnArrival P (ir, nw, cw, ss, ct, sa, nI wr, nI nx, nI tc, ms, sr, rv, mr, rx, rr, nI rm, nI sh, am, tp, pc, ps, ur, nI rp, rt, ds, un, tl, ro, lm, bs, re, sd, la, dl, lo, ep, ts, fl, ta) (nI s) := by
    intro P hp
    refine ⟨rt_in hs, nm_r (e' := upd dl s 1) (by rw [rt_ua (by omega), rt_n1]) ⟨rt_in hs, nm_r (e' := upd lo s 0) (by rw [rt_ua (by omega), rt_n0]) ⟨rt_in hs, by rw [rt_cp (by omega)]; exact rt_IL_in hL s, nm_r (e' := nw - ta (la s).toNatClampNeg) (by rw [rt_cp (by omega)]) ⟨rt_in hs, ?_⟩⟩⟩⟩
    rw [rt_at (a := sd) (by omega : s < 256)]
    exact hp
  have Y0 : ∀ (P : SY → Prop) (x1 x2 x3 : Int32) (n : Nat), ((sd s = 1 → wpY_sample (fun u => match u with | (ir_, wr_, tc_, nw_, cw_, ss_, ct_, sa_, nx_, sr_, rv_, mr_, ry_, rr_, rm_, sh_, am_, pc_, ps_, ur_, rp_, rt_, ds_, un_, tl_, ro_, lm_, dc_, ms_, mm_, hr_, tp_, bs_, rb_, re_, sd_, la_, dl_, lo_, ep_, mk_, ts_, ta_, aa_, ax_, ap_) => wY_ack_100 P (wY_ack_5 P x1 x2 n) x1 x2 (x3 + 1) (nI s) (nw - ta (la s).toNatClampNeg) ir_ wr_ tc_ nw_ cw_ ss_ ct_ sa_ nx_ sr_ rv_ mr_ ry_ rr_ rm_ sh_ am_ pc_ ps_ ur_ rp_ rt_ ds_ un_ tl_ ro_ lm_ dc_ ms_ mm_ hr_ tp_ bs_ rb_ re_ sd_ la_ dl_ lo_ ep_ mk_ ts_ ta_ aa_ ax_ ap_) (ir, nI wr, nI tc, nw, cw, ss, ct, sa, nI nx, sr, rv, mr, ry, rr, nI rm, nI sh, am, pc, ps, ur, nI rp, rt, ds, un, tl, ro, lm, dc + 1, ms, ms, hr, tp, bs, rb, re, sd, la, upd dl s 1, upd lo s 0, ep, mk, ts, ta, aa, ax, ap) (nw - ta (la s).toNatClampNeg)) ∧ (¬ sd s = 1 → wY_ack_100 P (wY_ack_5 P x1 x2 n) x1 x2 (x3 + 1) (nI s) (nw - ta (la s).toNatClampNeg) ir (nI wr) (nI tc) nw cw ss ct sa (nI nx) sr rv mr ry rr (nI rm) (nI sh) am pc ps ur (nI rp) rt ds un tl ro lm (dc + 1) ms ms hr tp bs rb re sd la (upd dl s 1) (upd lo s 0) ep mk ts ta aa ax ap)) → wY_ack_5 P x1 x2 (n + 1) x3 (nI s) ir (nI wr) (nI tc) nw cw ss ct sa (nI nx) sr rv mr ry rr (nI rm) (nI sh) am pc ps ur (nI rp) rt ds un tl ro lm dc ms ms hr tp bs rb re sd la dl lo ep mk ts ta aa ax ap := by
    intro P x1 x2 x3 n hp
    refine br_f (rt_64 s hs) ⟨rt_in hs, br_f (by rw [rt_cp (by omega)]; exact hre) ⟨rt_in hs, br_t (by rw [rt_cp (by omega)]; exact hdl) ⟨rt_in hs, nm_r (e' := upd dl s 1) (by rw [rt_ua (by omega), rt_n1]) ⟨rt_in hs, nm_r (e' := upd lo s 0) (by rw [rt_ua (by omega), rt_n0]) (nm_e (nm_e ⟨rt_in hs, by rw [rt_cp (by omega)]; exact rt_IL_in hL s, nm_r (e' := nw - ta (la s).toNatClampNeg) (by rw [rt_cp (by omega)]) ⟨rt_in hs, ?_⟩⟩))⟩⟩⟩⟩
    rw [rt_at (a := sd) (by omega : s < 256)]
    exact hp
  by_cases s1 : sd s = 1
  · obtain ⟨ms', sr', rv', mr', hX, hY⟩ := lc_sm (wr := wr) (nx := nx) (tc := tc) (rm := rm) (sh := sh) (rp := rp) (ir := ir) (nw := nw) (cw := cw) (ss := ss) (ct := ct) (sa := sa) (ms := ms) (sr := sr) (rv := rv) (mr := mr) (rx := rx) (rr := rr) (am := am) (tp := tp) (pc := pc) (ps := ps) (ur := ur) (rt := rt) (ds := ds) (un := un) (tl := tl) (ro := ro) (lm := lm) (ry := ry) (hr := hr) (bs := bs) (re := re) (sd := sd) (la := la) (ep := ep) (ts := ts) (fl := fl) (ta := ta) (rb := rb) (mk := mk) (aa := aa) (ax := ax) (ap := ap) (dl := upd dl s 1) (lo := upd lo s 0) (dc := dc + 1) (nw - ta (la s).toNatClampNeg)
    exact ⟨ms', sr', rv', mr', fun P hp => X0 P (br_t s1 (hX _ hp)), fun P x1 x2 x3 n hp => Y0 P x1 x2 x3 n (br_t s1 (hY _ hp))⟩
  · exact ⟨ms, sr, rv, mr, fun P hp => X0 P (br_f s1 hp), fun P x1 x2 x3 n hp => Y0 P x1 x2 x3 n (br_f s1 hp)⟩
theorem ld_3 (hs : s < 64) (hL : rt_IL la) (hK : rt_IK rx ry hr) (hre : ¬ re s = 0) (hdl : dl s = 0) : ∃ ms' sr' rv' mr' rx' rr' ry' hr' cw' ct' : Int32, rt_IK rx' ry' hr' ∧ (∀ P : SX → Prop, P (ir, nw, cw', ss, ct', sa, nI wr, nI nx, nI tc, ms', sr', rv', mr', rx', rr', nI rm, nI sh, am, tp, pc, ps, ur, nI rp, rt, ds, un, tl, ro, lm, bs, re, sd, la, upd dl s 1, upd lo s 0, ep, ts, fl, ta) → wpX_learnArrival P (ir, nw, cw, ss, ct, sa, nI wr, nI nx, nI tc, ms, sr, rv, mr, rx, rr, nI rm, nI sh, am, tp, pc, ps, ur, nI rp, rt, ds, un, tl, ro, lm, bs, re, sd, la, dl, lo, ep, ts, fl, ta) (nI s)) ∧ (∀ (P : SY → Prop) (x1 x2 x3 : Int32) (n : Nat), wY_ack_5 P x1 x2 n (x3 + 1) (nI (s + 1)) ir (nI wr) (nI tc) nw cw' ss ct' sa (nI nx) sr' rv' mr' ry' rr' (nI rm) (nI sh) am pc ps ur (nI rp) rt ds un tl ro lm (dc + 1) ms' ms' hr' tp bs rb re sd la (upd dl s 1) (upd lo s 0) ep mk ts ta aa ax ap → wY_ack_5 P x1 x2 (n + 1) x3 (nI s) ir (nI wr) (nI tc) nw cw ss ct sa (nI nx) sr rv mr ry rr (nI rm) (nI sh) am pc ps ur (nI rp) rt ds un tl ro lm dc ms ms hr tp bs rb re sd la dl lo ep mk ts ta aa ax ap) := by
  obtain ⟨ms', sr', rv', mr', hX1, hY1⟩ := ld_1 (wr := wr) (nx := nx) (tc := tc) (rm := rm) (sh := sh) (rp := rp) (ir := ir) (nw := nw) (cw := cw) (ss := ss) (ct := ct) (sa := sa) (ms := ms) (sr := sr) (rv := rv) (mr := mr) (rx := rx) (rr := rr) (am := am) (tp := tp) (pc := pc) (ps := ps) (ur := ur) (rt := rt) (ds := ds) (un := un) (tl := tl) (ro := ro) (lm := lm) (ry := ry) (hr := hr) (dc := dc) (bs := bs) (re := re) (sd := sd) (la := la) (dl := dl) (lo := lo) (ep := ep) (ts := ts) (fl := fl) (ta := ta) (rb := rb) (mk := mk) (aa := aa) (ax := ax) (ap := ap) hs hL hre hdl
  obtain ⟨rx', rr', ry', hr', hK', hX2, hY2⟩ := ld_2 (wr := wr) (nx := nx) (tc := tc) (rm := rm) (sh := sh) (rp := rp) (ir := ir) (nw := nw) (cw := cw) (ss := ss) (ct := ct) (sa := sa) (rx := rx) (rr := rr) (am := am) (tp := tp) (pc := pc) (ps := ps) (ur := ur) (rt := rt) (ds := ds) (un := un) (tl := tl) (ro := ro) (lm := lm) (ry := ry) (hr := hr) (bs := bs) (re := re) (sd := sd) (la := la) (ep := ep) (ts := ts) (fl := fl) (ta := ta) (rb := rb) (mk := mk) (aa := aa) (ax := ax) (ap := ap) (dl := upd dl s 1) (lo := upd lo s 0) (dc := dc + 1) (ms := ms') (sr := sr') (rv := rv') (mr := mr') (r := nw - ta (la s).toNatClampNeg) hs hL hK
  obtain ⟨cw', ct', hX3, hY3⟩ := lc_gr (wr := wr) (nx := nx) (tc := tc) (rm := rm) (sh := sh) (rp := rp) (ir := ir) (nw := nw) (cw := cw) (ss := ss) (ct := ct) (sa := sa) (am := am) (tp := tp) (pc := pc) (ps := ps) (ur := ur) (rt := rt) (ds := ds) (un := un) (tl := tl) (ro := ro) (lm := lm) (bs := bs) (re := re) (sd := sd) (la := la) (ep := ep) (ts := ts) (fl := fl) (ta := ta) (rb := rb) (mk := mk) (aa := aa) (ax := ax) (ap := ap) (dl := upd dl s 1) (lo := upd lo s 0) (dc := dc + 1) (ms := ms') (sr := sr') (rv := rv') (mr := mr') (rx := rx') (rr := rr') (ry := ry') (hr := hr')
  exact ⟨ms', sr', rv', mr', rx', rr', ry', hr', cw', ct', hK', fun P hp => hX1 P (hX2 P (hX3 _ hp)), fun P x1 x2 x3 n hp => hY1 P x1 x2 x3 n (hY2 P _ x1 x2 _ (hY3 _ (nm_r (nI_1 s) hp)))⟩
theorem yd_sk {P : SY → Prop} {x1 x2 x3 : Int32} {a b : Nat} (ha : b ≤ a) (hZr : rt_IZ b re) (hp : ∀ n, wY_ack_5 P x1 x2 (n + 1) x3 (nI 64) ir (nI wr) (nI tc) nw cw ss ct sa (nI nx) sr rv mr ry rr (nI rm) (nI sh) am pc ps ur (nI rp) rt ds un tl ro lm dc ms ms hr tp bs rb re sd la dl lo ep mk ts ta aa ax ap) : ∀ d s n, s + d = 64 → a ≤ s → d < n → wY_ack_5 P x1 x2 n x3 (nI s) ir (nI wr) (nI tc) nw cw ss ct sa (nI nx) sr rv mr ry rr (nI rm) (nI sh) am pc ps ur (nI rp) rt ds un tl ro lm dc ms ms hr tp bs rb re sd la dl lo ep mk ts ta aa ax ap := by
  intro d
  induction d with
  | zero =>
    intro s n h _ hn
    obtain ⟨m, rfl⟩ : ∃ m, n = m + 1 := ⟨n - 1, by omega⟩
    obtain rfl : s = 64 := by omega
    exact hp m
  | succ d ih =>
    intro s n h g hn
    obtain ⟨m, rfl⟩ : ∃ m, n = m + 1 := ⟨n - 1, by omega⟩
    exact br_f (rt_64 s (by omega)) ⟨rt_in (by omega), br_t (by rw [rt_cp (by omega)]; exact hZr s (by omega)) (nm_r (nI_1 s) (ih (s + 1) m (by omega) (by omega) (by omega)))⟩
end
theorem la_la_l : ∀ d : Nat, ∀ (wr nx tc rm sh rp : Nat) (ir nw cw ss ct sa ms sr rv mr rx rr am tp pc ps ur rt ds un tl ro lm ry hr dc : Int32) (bs re sd la dl lo ep ts fl ta rb mk aa ax ap : Nat → Int32), rt_IV nx wr tc rp sh rm rx ry hr dc bs re sd la dl lo ts fl rb aa ax ap → ∀ s h : Nat, s + d = nx → h ≤ s → ∃ (u : SX) (v : SY), (∀ (P : SX → Prop) (n : Nat), P u → d < n → wX_learnArrivals_4 P n (rt_b (decide (0 < h))) (nI s) ir nw cw ss ct sa (nI wr) (nI nx) (nI tc) ms sr rv mr rx rr (nI rm) (nI sh) am tp pc ps ur (nI rp) rt ds un tl ro lm bs re sd la dl lo ep ts fl ta) ∧ (∀ (P : SY → Prop) (x1 x2 : Int32) (n : Nat), rt_A2 P x1 x2 v → 64 - s < n → wY_ack_5 P x1 x2 n (nI h) (nI s) ir (nI wr) (nI tc) nw cw ss ct sa (nI nx) sr rv mr ry rr (nI rm) (nI sh) am pc ps ur (nI rp) rt ds un tl ro lm dc ms ms hr tp bs rb re sd la dl lo ep mk ts ta aa ax ap) ∧ rt_RL tc u v := by
  intro d
  induction d with
  | zero =>
    intro wr nx tc rm sh rp ir nw cw ss ct sa ms sr rv mr rx rr am tp pc ps ur rt ds un tl ro lm ry hr dc bs re sd la dl lo ep ts fl ta rb mk aa ax ap hI s h hs hh
    obtain rfl : s = nx := by omega
    have hI0 := hI
    obtain ⟨⟨n1, n2, n3, n4, n5, n6⟩, hS, hZl, hZd, hZr, hL, hT, hK, hF, hB, hC⟩ := hI0
    have xe : nI s ≤ nI s := nI_le (Nat.le_refl _) (by omega)
    by_cases h0 : 0 < h
    · refine ⟨(ir, nw, cw, ss, ct, sa, nI wr, nI s, nI tc, ms, sr, rv, mr, rx, rr, nI rm, nI 0, nw, 0, pc, ps, ur, nI rp, rt, ds, un, tl, ro, lm, bs, re, sd, la, dl, lo, ep, ts, fl, ta), (ir, nI wr, nI tc, nw, cw, ss, ct, sa, nI s, sr, rv, mr, ry, rr, nI rm, nI 0, nw, pc, ps, ur, nI rp, rt, ds, un, tl, ro, lm, dc, ms, ms, hr, 0, bs, rb, re, sd, la, dl, lo, ep, mk, ts, ta, aa, ax, ap), fun P n hp hn => ?_, fun P x1 x2 n hp hn => ?_, rt_RLi (nx := s) (sh := 0) ⟨⟨n1, n2, n3, n4, by omega, n6⟩, hS, hZl, hZd, hZr, hL, hT, hK, hF, hB, hC⟩⟩
      · obtain ⟨m, rfl⟩ : ∃ m, n = m + 1 := ⟨n - 1, by omega⟩
        exact br_t xe (br_f (by rw [decide_eq_true h0]; decide) hp)
      · exact yd_sk (nx := s) (Nat.le_refl s) hZr (fun n => br_t rt_64e (br_f (nI_nle h0 (by omega)) hp)) (64 - s) s n (by omega) (Nat.le_refl s) hn
    · refine ⟨(ir, nw, cw, ss, ct, sa, nI wr, nI s, nI tc, ms, sr, rv, mr, rx, rr, nI rm, nI sh, am, tp, pc, ps, ur, nI rp, rt, ds, un, tl, ro, lm, bs, re, sd, la, dl, lo, ep, ts, fl, ta), (ir, nI wr, nI tc, nw, cw, ss, ct, sa, nI s, sr, rv, mr, ry, rr, nI rm, nI sh, am, pc, ps, ur, nI rp, rt, ds, un, tl, ro, lm, dc, ms, ms, hr, tp, bs, rb, re, sd, la, dl, lo, ep, mk, ts, ta, aa, ax, ap), fun P n hp hn => ?_, fun P x1 x2 n hp hn => ?_, rt_RLi (nx := s) hI⟩
      · obtain ⟨m, rfl⟩ : ∃ m, n = m + 1 := ⟨n - 1, by omega⟩
        exact br_t xe (br_t (by rw [decide_eq_false h0]; rfl) hp)
      · have e : nI h ≤ 0 := by
          have : h = 0 := by omega
          rw [this]; decide
        exact yd_sk (nx := s) (Nat.le_refl s) hZr (fun n => br_t rt_64e (br_t e hp)) (64 - s) s n (by omega) (Nat.le_refl s) hn
  | succ d ih =>
    intro wr nx tc rm sh rp ir nw cw ss ct sa ms sr rv mr rx rr am tp pc ps ur rt ds un tl ro lm ry hr dc bs re sd la dl lo ep ts fl ta rb mk aa ax ap hI s h hs hh
    have hI0 := hI
    obtain ⟨⟨n1, n2, n3, n4, n5, n6⟩, hS, hZl, hZd, hZr, hL, hT, hK, hF, hB, hC⟩ := hI0
    have xn : ¬ nI nx ≤ nI s := nI_ge (by omega) (by omega)
    have s6 := rt_64 s (by omega)
    have si : vp_in (nI s) 64 := rt_in (by omega)
    by_cases r0 : re s = 0
    · obtain ⟨u, v, kX, kY, R⟩ := ih wr nx tc rm sh rp ir nw cw ss ct sa ms sr rv mr rx rr am tp pc ps ur rt ds un tl ro lm ry hr dc bs re sd la dl lo ep ts fl ta rb mk aa ax ap hI (s + 1) h (by omega) (by omega)
      refine ⟨u, v, fun P n hp hn => ?_, fun P x1 x2 n hp hn => ?_, R⟩
      · obtain ⟨m, rfl⟩ : ∃ m, n = m + 1 := ⟨n - 1, by omega⟩
        exact br_f xn ⟨si, br_t (by rw [rt_cp (by omega)]; exact r0) (nm_r (nI_1 s) (kX P m hp (by omega)))⟩
      · obtain ⟨m, rfl⟩ : ∃ m, n = m + 1 := ⟨n - 1, by omega⟩
        exact br_f s6 ⟨si, br_t (by rw [rt_cp (by omega)]; exact r0) (nm_r (nI_1 s) (kY P x1 x2 m hp (by omega)))⟩
    by_cases d0 : dl s = 0
    · obtain ⟨ms', sr', rv', mr', rx', rr', ry', hr', cw', ct', hK', hX, hY⟩ := ld_3 (wr := wr) (nx := nx) (tc := tc) (rm := rm) (sh := sh) (rp := rp) (ir := ir) (nw := nw) (cw := cw) (ss := ss) (ct := ct) (sa := sa) (ms := ms) (sr := sr) (rv := rv) (mr := mr) (rx := rx) (rr := rr) (am := am) (tp := tp) (pc := pc) (ps := ps) (ur := ur) (rt := rt) (ds := ds) (un := un) (tl := tl) (ro := ro) (lm := lm) (ry := ry) (hr := hr) (dc := dc) (bs := bs) (re := re) (sd := sd) (la := la) (dl := dl) (lo := lo) (ep := ep) (ts := ts) (fl := fl) (ta := ta) (rb := rb) (mk := mk) (aa := aa) (ax := ax) (ap := ap) (s := s) (by omega) hL hK r0 d0
      obtain ⟨u, v, kX, kY, R⟩ := ih wr nx tc rm sh rp ir nw cw' ss ct' sa ms' sr' rv' mr' rx' rr' am tp pc ps ur rt ds un tl ro lm ry' hr' (dc + 1) bs re sd la (upd dl s 1) (upd lo s 0) ep ts fl ta rb mk aa ax ap ⟨⟨n1, n2, n3, n4, n5, n6⟩, hS, rt_IZ_0 hZl s, rt_IZ_u hZd (by omega) 1, hZr, hL, hT, hK', hF, hB, rt_IC_u hC (by omega) d0⟩ (s + 1) (h + 1) (by omega) (by omega)
      refine ⟨u, v, fun P n hp hn => ?_, fun P x1 x2 n hp hn => ?_, R⟩
      · obtain ⟨m, rfl⟩ : ∃ m, n = m + 1 := ⟨n - 1, by omega⟩
        have k := kX P m hp (by omega)
        rw [decide_eq_true (Nat.succ_pos h)] at k
        exact br_f xn ⟨si, br_f (by rw [rt_cp (by omega)]; exact r0) ⟨si, br_t (by rw [rt_cp (by omega)]; exact d0) (hX _ (nm_r (nI_1 s) k))⟩⟩
      · obtain ⟨m, rfl⟩ : ∃ m, n = m + 1 := ⟨n - 1, by omega⟩
        have k := kY P x1 x2 m hp (by omega)
        rw [← nI_1 h] at k
        exact hY P x1 x2 (nI h) m k
    · obtain ⟨u, v, kX, kY, R⟩ := ih wr nx tc rm sh rp ir nw cw ss ct sa ms sr rv mr rx rr am tp pc ps ur rt ds un tl ro lm ry hr dc bs re sd la dl lo ep ts fl ta rb mk aa ax ap hI (s + 1) h (by omega) (by omega)
      refine ⟨u, v, fun P n hp hn => ?_, fun P x1 x2 n hp hn => ?_, R⟩
      · obtain ⟨m, rfl⟩ : ∃ m, n = m + 1 := ⟨n - 1, by omega⟩
        exact br_f xn ⟨si, br_f (by rw [rt_cp (by omega)]; exact r0) ⟨si, br_f (by rw [rt_cp (by omega)]; exact d0) (nm_r (nI_1 s) (kX P m hp (by omega)))⟩⟩
      · obtain ⟨m, rfl⟩ : ∃ m, n = m + 1 := ⟨n - 1, by omega⟩
        exact br_f s6 ⟨si, br_f (by rw [rt_cp (by omega)]; exact r0) ⟨si, br_f (by rw [rt_cp (by omega)]; exact d0) (nm_r (nI_1 s) (kY P x1 x2 m hp (by omega)))⟩⟩
section
variable {ir nw cw ss ct sa ms sr rv mr rx rr am tp pc ps ur rt ds un tl ro lm : Int32} {wr nx tc rm sh rp : Nat} {bs re sd la dl lo ep ts fl ta : Nat → Int32} {ry hr dc : Int32} {rb mk aa ax ap : Nat → Int32} {s : Nat}
theorem la_la (hI : rt_IV nx wr tc rp sh rm rx ry hr dc bs re sd la dl lo ts fl rb aa ax ap) : ∃ (u : SX) (v : SY), (∀ P : SX → Prop, P u → wpX_learnArrivals P (ir, nw, cw, ss, ct, sa, nI wr, nI nx, nI tc, ms, sr, rv, mr, rx, rr, nI rm, nI sh, am, tp, pc, ps, ur, nI rp, rt, ds, un, tl, ro, lm, bs, re, sd, la, dl, lo, ep, ts, fl, ta)) ∧ (∀ (P : SY → Prop) (x1 x2 : Int32), rt_A2 P x1 x2 v → wpY_ack P (ir, nI wr, nI tc, nw, cw, ss, ct, sa, nI nx, sr, rv, mr, ry, rr, nI rm, nI sh, am, pc, ps, ur, nI rp, rt, ds, un, tl, ro, lm, dc, ms, ms, hr, tp, bs, rb, re, sd, la, dl, lo, ep, mk, ts, ta, aa, ax, ap) x1 x2) ∧ rt_RL tc u v := by
  obtain ⟨u, v, kX, kY, R⟩ := la_la_l nx wr nx tc rm sh rp ir nw cw ss ct sa ms sr rv mr rx rr am tp pc ps ur rt ds un tl ro lm ry hr dc bs re sd la dl lo ep ts fl ta rb mk aa ax ap hI 0 0 (by omega) (by omega)
  exact ⟨u, v, fun P hp => ⟨nx + 1, kX P _ hp (by omega)⟩, fun P x1 x2 hp => ⟨65, kY P x1 x2 _ hp (by omega)⟩, R⟩
/-- the segment came twice -/
theorem ld_d (hI : rt_IV nx wr tc rp sh rm rx ry hr dc bs re sd la dl lo ts fl rb aa ax ap) (hs : s < 64) : ∃ (u : SX) (v : SY), (∀ P : SX → Prop, P u → wX_learnDuplicate_31 P (nI s) (nI rm) ir nw cw ss ct sa (nI wr) (nI nx) (nI tc) ms sr rv mr rx rr (nI rm) (nI sh) am tp pc ps ur (nI rp) rt ds un tl ro lm bs re sd la dl lo ep ts fl ta) ∧ (∀ P : SY → Prop, rt_A9 P v → wY_ack_239 P (nI s) (nI rm) ir (nI wr) (nI tc) nw cw ss ct sa (nI nx) sr rv mr ry rr (nI rm) (nI sh) am pc ps ur (nI rp) rt ds un tl ro lm dc ms ms hr tp bs rb re sd la dl lo ep mk ts ta aa ax ap) ∧ rt_RL tc u v := by
  have hI0 := hI
  obtain ⟨⟨n1, n2, n3, n4, n5, n6⟩, hS, hZl, hZd, hZr, hL, hT, hK, hF, hB, hC⟩ := hI0
  have si : vp_in (nI s) 64 := rt_in hs
  by_cases s0 : sa = 0
  · exact ⟨(ir, nw, cw, ss, ct, sa, nI wr, nI nx, nI tc, ms, sr, rv, mr, rx, rr, nI rm, nI sh, am, tp, pc, ps, ur, nI rp, rt, ds, un, tl, ro, lm, bs, re, sd, la, dl, lo, ep, ts, fl, ta), (ir, nI wr, nI tc, nw, cw, ss, ct, sa, nI nx, sr, rv, mr, ry, rr, nI rm, nI sh, am, pc, ps, ur, nI rp, rt, ds, un, tl, ro, lm, dc, ms, ms, hr, tp, bs, rb, re, sd, la, dl, lo, ep, mk, ts, ta, aa, ax, ap), fun P hp => br_t s0 hp, fun P hp => br_t s0 hp, rt_RLi (wr := wr) (nx := nx) (tc := tc) (rm := rm) (sh := sh) (rp := rp) (ir := ir) (nw := nw) (cw := cw) (ss := ss) (ct := ct) (sa := sa) (ms := ms) (sr := sr) (rv := rv) (mr := mr) (rx := rx) (rr := rr) (am := am) (tp := tp) (pc := pc) (ps := ps) (ur := ur) (rt := rt) (ds := ds) (un := un) (tl := tl) (ro := ro) (lm := lm) (ry := ry) (hr := hr) (dc := dc) (bs := bs) (re := re) (sd := sd) (la := la) (dl := dl) (lo := lo) (ep := ep) (ts := ts) (fl := fl) (ta := ta) (rb := rb) (mk := mk) (aa := aa) (ax := ax) (ap := ap) hI⟩
  by_cases e0 : ep s ≤ 0
  · exact ⟨(ir, nw, cw, ss, ct, sa, nI wr, nI nx, nI tc, ms, sr, rv, mr, rx, rr, nI rm, nI sh, am, tp, pc, ps, ur, nI rp, rt, ds, un, tl, ro, lm, bs, re, sd, la, dl, lo, ep, ts, fl, ta), (ir, nI wr, nI tc, nw, cw, ss, ct, sa, nI nx, sr, rv, mr, ry, rr, nI rm, nI sh, am, pc, ps, ur, nI rp, rt, ds, un, tl, ro, lm, dc, ms, ms, hr, tp, bs, rb, re, sd, la, dl, lo, ep, mk, ts, ta, aa, ax, ap), fun P hp => br_f s0 ⟨si, br_t (by rw [rt_cp (by omega)]; exact e0) hp⟩, fun P hp => br_f s0 ⟨si, br_t (by rw [rt_cp (by omega)]; exact e0) hp⟩, rt_RLi (wr := wr) (nx := nx) (tc := tc) (rm := rm) (sh := sh) (rp := rp) (ir := ir) (nw := nw) (cw := cw) (ss := ss) (ct := ct) (sa := sa) (ms := ms) (sr := sr) (rv := rv) (mr := mr) (rx := rx) (rr := rr) (am := am) (tp := tp) (pc := pc) (ps := ps) (ur := ur) (rt := rt) (ds := ds) (un := un) (tl := tl) (ro := ro) (lm := lm) (ry := ry) (hr := hr) (dc := dc) (bs := bs) (re := re) (sd := sd) (la := la) (dl := dl) (lo := lo) (ep := ep) (ts := ts) (fl := fl) (ta := ta) (rb := rb) (mk := mk) (aa := aa) (ax := ax) (ap := ap) hI⟩
  by_cases u0 : ur - 1 = 0
  · exact ⟨(ir, nw, rt_mx cw pc, rt_mx ss ps, 0, 0, nI wr, nI nx, nI tc, ms, sr, rv, mr, rx, rr, nI rm, nI sh, am, tp, pc, ps, ur - 1, nI rp, rt, ds, un + 1, tl, ro, lm, bs, re, sd, la, dl, rt_zr lo 64, upd ep s (ep s - 1), ts, fl, ta), (ir, nI wr, nI tc, nw, rt_mx cw pc, rt_mx ss ps, 0, 0, nI nx, sr, rv, mr, ry, rr, nI rm, nI sh, am, pc, ps, ur - 1, nI rp, rt, ds, un + 1, tl, ro, lm, dc, ms, ms, hr, tp, bs, rb, re, sd, la, dl, rt_zr lo 64, upd ep s (ep s - 1), mk, ts, ta, aa, ax, ap), fun P hp => br_f s0 ⟨si, br_f (by rw [rt_cp (by omega)]; exact e0) ⟨si, si, nm_r (e' := upd ep s (ep s - 1)) (by rw [rt_ua (by omega), rt_cp (by omega)]) (nm_e (br_t u0 (xc_un hp)))⟩⟩, fun P hp => br_f s0 ⟨si, br_f (by rw [rt_cp (by omega)]; exact e0) ⟨si, si, nm_r (e' := upd ep s (ep s - 1)) (by rw [rt_ua (by omega), rt_cp (by omega)]) (nm_e (br_t u0 (yc_un hp)))⟩⟩, rt_RLi ⟨⟨n1, n2, n3, n4, n5, n6⟩, hS, rt_IZ_zr hZl 64, hZd, hZr, hL, hT, hK, hF, hB, hC⟩⟩
  · exact ⟨(ir, nw, cw, ss, ct, sa, nI wr, nI nx, nI tc, ms, sr, rv, mr, rx, rr, nI rm, nI sh, am, tp, pc, ps, ur - 1, nI rp, rt, ds, un, tl, ro, lm, bs, re, sd, la, dl, lo, upd ep s (ep s - 1), ts, fl, ta), (ir, nI wr, nI tc, nw, cw, ss, ct, sa, nI nx, sr, rv, mr, ry, rr, nI rm, nI sh, am, pc, ps, ur - 1, nI rp, rt, ds, un, tl, ro, lm, dc, ms, ms, hr, tp, bs, rb, re, sd, la, dl, lo, upd ep s (ep s - 1), mk, ts, ta, aa, ax, ap), fun P hp => br_f s0 ⟨si, br_f (by rw [rt_cp (by omega)]; exact e0) ⟨si, si, nm_r (e' := upd ep s (ep s - 1)) (by rw [rt_ua (by omega), rt_cp (by omega)]) (nm_e (br_f u0 hp))⟩⟩, fun P hp => br_f s0 ⟨si, br_f (by rw [rt_cp (by omega)]; exact e0) ⟨si, si, nm_r (e' := upd ep s (ep s - 1)) (by rw [rt_ua (by omega), rt_cp (by omega)]) (nm_e (br_f u0 hp))⟩⟩, rt_RLi hI⟩
theorem la_du {x : Int32} (hI : rt_IV nx wr tc rp sh rm rx ry hr dc bs re sd la dl lo ts fl rb aa ax ap) (hs : s < 64) (hx : ¬ x = 0) : ∃ (u : SX) (v : SY), (∀ P : SX → Prop, P u → wpX_learnDuplicate P (ir, nw, cw, ss, ct, sa, nI wr, nI nx, nI tc, ms, sr, rv, mr, rx, rr, nI rm, nI sh, am, tp, pc, ps, ur, nI rp, rt, ds, un, tl, ro, lm, bs, re, sd, la, dl, lo, ep, ts, fl, ta) (nI s)) ∧ (∀ P : SY → Prop, rt_A9 P v → wY_ack_202 P x (nI s) ir (nI wr) (nI tc) nw cw ss ct sa (nI nx) sr rv mr ry rr (nI rm) (nI sh) am pc ps ur (nI rp) rt ds un tl ro lm dc ms ms hr tp bs rb re sd la dl lo ep mk ts ta aa ax ap) ∧ rt_RL tc u v := by
  obtain ⟨⟨n1, n2, n3, n4, n5, n6⟩, hS, hZl, hZd, hZr, hL, hT, hK, hF, hB, hC⟩ := hI
  rcases Nat.lt_or_ge rm 8 with h | h
  · obtain ⟨u, v, hX, hY, R⟩ := ld_d (wr := wr) (nx := nx) (tc := tc) (sh := sh) (rp := rp) (ir := ir) (nw := nw) (cw := cw) (ss := ss) (ct := ct) (sa := sa) (ms := ms) (sr := sr) (rv := rv) (mr := mr) (rx := rx) (rr := rr) (am := am) (tp := tp) (pc := pc) (ps := ps) (ur := ur) (rt := rt) (un := un) (tl := tl) (ro := ro) (lm := lm) (ry := ry) (hr := hr) (dc := dc) (bs := bs) (re := re) (sd := sd) (la := la) (dl := dl) (lo := lo) (ep := ep) (ts := ts) (fl := fl) (ta := ta) (rb := rb) (mk := mk) (aa := aa) (ax := ax) (ap := ap) (rm := rm + 1) (ds := ds + 1) (s := s) ⟨⟨n1, n2, n3, n4, n5, by omega⟩, hS, hZl, hZd, hZr, hL, hT, hK, hF, hB, hC⟩ hs
    refine ⟨u, v, fun P hp => nm_e (br_f (nI_ge (b := 8) h (by decide)) ?_), fun P hp => br_f hx (nm_e (br_t (by rw [nI_1 rm]; exact nI_le (b := 8) (by omega) (by decide)) ?_)), R⟩
    · rw [nI_1 rm]; exact hX P hp
    · rw [nI_1 rm]; exact hY P hp
  · obtain rfl : rm = 8 := by omega
    obtain ⟨u, v, hX, hY, R⟩ := ld_d (wr := wr) (nx := nx) (tc := tc) (sh := sh) (rp := rp) (ir := ir) (nw := nw) (cw := cw) (ss := ss) (ct := ct) (sa := sa) (ms := ms) (sr := sr) (rv := rv) (mr := mr) (rx := rx) (rr := rr) (am := am) (tp := tp) (pc := pc) (ps := ps) (ur := ur) (rt := rt) (un := un) (tl := tl) (ro := ro) (lm := lm) (ry := ry) (hr := hr) (dc := dc) (bs := bs) (re := re) (sd := sd) (la := la) (dl := dl) (lo := lo) (ep := ep) (ts := ts) (fl := fl) (ta := ta) (rb := rb) (mk := mk) (aa := aa) (ax := ax) (ap := ap) (rm := 8) (ds := ds + 1) (s := s) ⟨⟨n1, n2, n3, n4, n5, n6⟩, hS, hZl, hZd, hZr, hL, hT, hK, hF, hB, hC⟩ hs
    exact ⟨u, v, fun P hp => nm_e (br_t (by decide) (hX P hp)), fun P hp => br_f hx (nm_e (br_f (by decide) (hY P hp))), R⟩
theorem la_40 (hI : rt_IV nx wr tc rp sh rm rx ry hr dc bs re sd la dl lo ts fl rb aa ax ap) : ∃ (t : Nat) (u : SX) (v : SY), (∀ P : SX → Prop, P u → wX_acknowledge_40 P ir nw cw ss ct sa (nI wr) (nI nx) (nI tc) ms sr rv mr rx rr (nI rm) (nI sh) am tp pc ps ur (nI rp) rt ds un tl ro lm bs re sd la dl lo ep ts fl ta) ∧ (∀ P : SY → Prop, P v → wY_ack_347 P ir (nI wr) (nI tc) nw cw ss ct sa (nI nx) sr rv mr ry rr (nI rm) (nI sh) am pc ps ur (nI rp) rt ds un tl ro lm dc ms ms hr tp bs rb re sd la dl lo ep mk ts ta aa ax ap) ∧ rt_RL t u v := by
  obtain ⟨u1, v1, hX, hY, R⟩ := la_dt (wr := wr) (nx := nx) (tc := tc) (rm := rm) (sh := sh) (rp := rp) (ir := ir) (nw := nw) (cw := cw) (ss := ss) (ct := ct) (sa := sa) (ms := ms) (sr := sr) (rv := rv) (mr := mr) (rx := rx) (rr := rr) (am := am) (tp := tp) (pc := pc) (ps := ps) (ur := ur) (rt := rt) (ds := ds) (un := un) (tl := tl) (ro := ro) (lm := lm) (ry := ry) (hr := hr) (dc := dc) (bs := bs) (re := re) (sd := sd) (la := la) (dl := dl) (lo := lo) (ep := ep) (ts := ts) (fl := fl) (ta := ta) (rb := rb) (mk := mk) (aa := aa) (ax := ax) (ap := ap) hI
  obtain ⟨wr', nx', rm', sh', rp', ir', nw', cw', ss', ct', sa', ms', sr', rv', mr', rx', rr', am', tp', pc', ps', ur', rt', ds', un', tl', ro', lm', ry', hr', dc', bs', re', sd', la', dl', lo', ep', ts', fl', ta', rb', mk', aa', ax', ap', rfl, rfl, hI'⟩ := R
  obtain ⟨t, u, v, kX, kY, R'⟩ := la_sd (wr := wr') (nx := nx') (rm := rm') (sh := sh') (rp := rp') (ir := ir') (nw := nw') (cw := cw') (ss := ss') (ct := ct') (sa := sa') (ms := ms') (sr := sr') (rv := rv') (mr := mr') (rx := rx') (rr := rr') (am := am') (tp := tp') (pc := pc') (ps := ps') (ur := ur') (rt := rt') (ds := ds') (un := un') (tl := tl') (ro := ro') (lm := lm') (ry := ry') (hr := hr') (dc := dc') (bs := bs') (re := re') (sd := sd') (la := la') (dl := dl') (lo := lo') (ep := ep') (ts := ts') (fl := fl') (ta := ta') (rb := rb') (mk := mk') (aa := aa') (ax := ax') (ap := ap') hI'
  obtain ⟨wq, nq, rq, sq, pq, irq, nwq, cwq, ssq, ctq, saq, msq, srq, rvq, mrq, rxq, rrq, amq, tpq, pcq, psq, urq, rtq, dsq, unq, tlq, roq, lmq, ryq, hrq, dcq, bsq, req, sdq, laq, dlq, loq, epq, tsq, flq, taq, rbq, mkq, aaq, axq, apq, rfl, rfl, hq⟩ := R'
  exact ⟨t, _, _, fun P hp => hX _ (kX _ hp), fun P hp => hY _ (kY _ hp), ⟨wq, nq, rq, sq, pq, irq, nwq, cwq, ssq, ctq, saq, msq, srq, rvq, mrq, rxq, rrq, amq, tpq, pcq, psq, urq, rtq, dsq, unq, tlq, roq, lmq, ryq, hrq, dcq, bsq, req, sdq, laq, dlq, loq, epq, tsq, flq, taq, rbq, mkq, aaq, axq, apq, rfl, rfl, hq⟩⟩
theorem yd_al {P : SY → Prop} (h64 : rp ≤ 64) (hp : wY_ack_337 P (rt_b (decide (rt_cn (rt_nz dl) rp = rp))) ir (nI wr) (nI tc) nw cw ss ct sa (nI nx) sr rv mr ry rr (nI rm) (nI sh) am pc ps ur (nI rp) rt ds un tl ro lm dc ms ms hr tp bs rb re sd la dl lo ep mk ts ta aa ax ap) : ∀ d s, s + d = rp → wY_ack_302 P ir (nI wr) (nI tc) nw cw ss ct sa (nI nx) sr rv mr ry rr (nI rm) (nI sh) am pc ps ur (nI rp) rt ds un tl ro lm dc ms ms hr tp bs rb re sd la dl lo ep mk ts ta aa ax ap (d + 1) (rt_b (decide (rt_cn (rt_nz dl) s = s))) (nI s) := by
  intro d
  induction d with
  | zero =>
    intro s h
    obtain rfl : s = rp := by omega
    exact br_t (nI_le (Nat.le_refl _) (by omega)) hp
  | succ d ih =>
    intro s h
    have k := ih (s + 1) (by omega)
    have c := rt_cn_le (rt_nz dl) s
    refine br_f (nI_ge (by omega) (by omega)) (br_f (rt_64 s (by omega)) ⟨rt_in (by omega), rt_bz (by omega) (fun y => ?_) (fun y => ?_)⟩)
    · rw [rt_cn_f (rt_nz_f y), decide_eq_false (by omega)] at k
      exact nm_r (nI_1 s) k
    · have e : (rt_cn (rt_nz dl) s + 1 = s + 1) = (rt_cn (rt_nz dl) s = s) := propext ⟨fun z => by omega, fun z => by omega⟩
      rw [rt_cn_t (rt_nz_t y)] at k
      have e2 : decide (rt_cn (rt_nz dl) s + 1 = s + 1) = decide (rt_cn (rt_nz dl) s = s) := decide_eq_decide.mpr (by omega)
      rw [e2] at k
      exact nm_r (nI_1 s) k
theorem la_13 (hI : rt_IV nx wr tc rp sh rm rx ry hr dc bs re sd la dl lo ts fl rb aa ax ap) : ∃ (t : Nat) (u : SX) (v : SY), (∀ P : SX → Prop, P u → wX_acknowledge_13 P ir nw cw ss ct sa (nI wr) (nI nx) (nI tc) ms sr rv mr rx rr (nI rm) (nI sh) am tp pc ps ur (nI rp) rt ds un tl ro lm bs re sd la dl lo ep ts fl ta) ∧ (∀ P : SY → Prop, P v → wY_ack_289 P ir (nI wr) (nI tc) nw cw ss ct sa (nI nx) sr rv mr ry rr (nI rm) (nI sh) am pc ps ur (nI rp) rt ds un tl ro lm dc ms ms hr tp bs rb re sd la dl lo ep mk ts ta aa ax ap) ∧ rt_RL t u v := by
  have h64 : rp ≤ 64 := hI.1.2.2.2.1
  have cl := rt_cn_le (rt_nz dl) rp
  by_cases s0 : sa = 0
  · obtain ⟨t, u, v, hX, hY, R⟩ := la_40 (wr := wr) (nx := nx) (tc := tc) (rm := rm) (sh := sh) (rp := rp) (ir := ir) (nw := nw) (cw := cw) (ss := ss) (ct := ct) (sa := sa) (ms := ms) (sr := sr) (rv := rv) (mr := mr) (rx := rx) (rr := rr) (am := am) (tp := tp) (pc := pc) (ps := ps) (ur := ur) (rt := rt) (ds := ds) (un := un) (tl := tl) (ro := ro) (lm := lm) (ry := ry) (hr := hr) (dc := dc) (bs := bs) (re := re) (sd := sd) (la := la) (dl := dl) (lo := lo) (ep := ep) (ts := ts) (fl := fl) (ta := ta) (rb := rb) (mk := mk) (aa := aa) (ax := ax) (ap := ap) hI
    exact ⟨t, u, v, fun P hp => br_t s0 (hX P hp), fun P hp => br_t s0 (hY P hp), R⟩
  by_cases c0 : rt_cn (rt_nz dl) rp = rp
  · obtain ⟨t, u, v, hX, hY, R⟩ := la_40 (wr := wr) (nx := nx) (tc := tc) (rm := rm) (sh := sh) (rp := rp) (ir := ir) (nw := nw) (cw := cw) (ss := ss) (ct := ct) (ms := ms) (sr := sr) (rv := rv) (mr := mr) (rx := rx) (rr := rr) (am := am) (tp := tp) (pc := pc) (ps := ps) (ur := ur) (rt := rt) (ds := ds) (un := un) (tl := tl) (ro := ro) (lm := lm) (ry := ry) (hr := hr) (dc := dc) (bs := bs) (re := re) (sd := sd) (la := la) (dl := dl) (lo := lo) (ep := ep) (ts := ts) (fl := fl) (ta := ta) (rb := rb) (mk := mk) (aa := aa) (ax := ax) (ap := ap) (sa := 0) hI
    refine ⟨t, u, v, fun P hp => br_f s0 (xa_db h64 (br_t (by rw [c0]) (hX P hp))), fun P hp => br_f s0 ⟨rp + 1, yd_al h64 ?_ rp 0 (by omega)⟩, R⟩
    rw [decide_eq_true c0]
    exact br_f (by decide) (hY P hp)
  · obtain ⟨t, u, v, hX, hY, R⟩ := la_40 (wr := wr) (nx := nx) (tc := tc) (rm := rm) (sh := sh) (rp := rp) (ir := ir) (nw := nw) (cw := cw) (ss := ss) (ct := ct) (sa := sa) (ms := ms) (sr := sr) (rv := rv) (mr := mr) (rx := rx) (rr := rr) (am := am) (tp := tp) (pc := pc) (ps := ps) (ur := ur) (rt := rt) (ds := ds) (un := un) (tl := tl) (ro := ro) (lm := lm) (ry := ry) (hr := hr) (dc := dc) (bs := bs) (re := re) (sd := sd) (la := la) (dl := dl) (lo := lo) (ep := ep) (ts := ts) (fl := fl) (ta := ta) (rb := rb) (mk := mk) (aa := aa) (ax := ax) (ap := ap) hI
    refine ⟨t, u, v, fun P hp => br_f s0 (xa_db h64 (br_f (fun z => c0 ((nI_eq (by omega) (by omega)).mp z)) (hX P hp))), fun P hp => br_f s0 ⟨rp + 1, yd_al h64 ?_ rp 0 (by omega)⟩, R⟩
    rw [decide_eq_false c0]
    exact br_t rfl (hY P hp)
theorem la_ak {p x : Int32} (hI : rt_IV nx wr tc rp sh rm rx ry hr dc bs re sd la dl lo ts fl rb aa ax ap) (hs : s < 64) (hpx : p = 0 ↔ x = 0) : ∃ (t : Nat) (u : SX) (v : SY), (∀ P : SX → Prop, P u → wpX_acknowledge P (ir, nw, cw, ss, ct, sa, nI wr, nI nx, nI tc, ms, sr, rv, mr, rx, rr, nI rm, nI sh, am, tp, pc, ps, ur, nI rp, rt, ds, un, tl, ro, lm, bs, re, sd, la, dl, lo, ep, ts, fl, ta) p (nI s)) ∧ (∀ P : SY → Prop, P v → wpY_ack P (ir, nI wr, nI tc, nw, cw, ss, ct, sa, nI nx, sr, rv, mr, ry, rr, nI rm, nI sh, am, pc, ps, ur, nI rp, rt, ds, un, tl, ro, lm, dc, ms, ms, hr, tp, bs, rb, re, sd, la, dl, lo, ep, mk, ts, ta, aa, ax, ap) x (nI s)) ∧ rt_RL t u v := by
  obtain ⟨u1, v1, hX1, hY1, R⟩ := la_la (wr := wr) (nx := nx) (tc := tc) (rm := rm) (sh := sh) (rp := rp) (ir := ir) (nw := nw) (cw := cw) (ss := ss) (ct := ct) (sa := sa) (ms := ms) (sr := sr) (rv := rv) (mr := mr) (rx := rx) (rr := rr) (am := am) (tp := tp) (pc := pc) (ps := ps) (ur := ur) (rt := rt) (ds := ds) (un := un) (tl := tl) (ro := ro) (lm := lm) (ry := ry) (hr := hr) (dc := dc) (bs := bs) (re := re) (sd := sd) (la := la) (dl := dl) (lo := lo) (ep := ep) (ts := ts) (fl := fl) (ta := ta) (rb := rb) (mk := mk) (aa := aa) (ax := ax) (ap := ap) hI
  obtain ⟨wr', nx', rm', sh', rp', ir', nw', cw', ss', ct', sa', ms', sr', rv', mr', rx', rr', am', tp', pc', ps', ur', rt', ds', un', tl', ro', lm', ry', hr', dc', bs', re', sd', la', dl', lo', ep', ts', fl', ta', rb', mk', aa', ax', ap', rfl, rfl, hI'⟩ := R
  by_cases p0 : p = 0
  · obtain ⟨t, u, v, hX, hY, R'⟩ := la_13 (wr := wr') (nx := nx') (rm := rm') (sh := sh') (rp := rp') (ir := ir') (nw := nw') (cw := cw') (ss := ss') (ct := ct') (sa := sa') (ms := ms') (sr := sr') (rv := rv') (mr := mr') (rx := rx') (rr := rr') (am := am') (tp := tp') (pc := pc') (ps := ps') (ur := ur') (rt := rt') (ds := ds') (un := un') (tl := tl') (ro := ro') (lm := lm') (ry := ry') (hr := hr') (dc := dc') (bs := bs') (re := re') (sd := sd') (la := la') (dl := dl') (lo := lo') (ep := ep') (ts := ts') (fl := fl') (ta := ta') (rb := rb') (mk := mk') (aa := aa') (ax := ax') (ap := ap') hI'
    obtain ⟨wq, nq, rq, sq, pq, irq, nwq, cwq, ssq, ctq, saq, msq, srq, rvq, mrq, rxq, rrq, amq, tpq, pcq, psq, urq, rtq, dsq, unq, tlq, roq, lmq, ryq, hrq, dcq, bsq, req, sdq, laq, dlq, loq, epq, tsq, flq, taq, rbq, mkq, aaq, axq, apq, rfl, rfl, hq⟩ := R'
    exact ⟨t, _, _, fun P hp => hX1 _ (br_t p0 (hX P hp)), fun P hp => hY1 P x (nI s) (br_t (hpx.mp p0) (hY P hp)), ⟨wq, nq, rq, sq, pq, irq, nwq, cwq, ssq, ctq, saq, msq, srq, rvq, mrq, rxq, rrq, amq, tpq, pcq, psq, urq, rtq, dsq, unq, tlq, roq, lmq, ryq, hrq, dcq, bsq, req, sdq, laq, dlq, loq, epq, tsq, flq, taq, rbq, mkq, aaq, axq, apq, rfl, rfl, hq⟩⟩
  · obtain ⟨u2, v2, hX2, hY2, R2⟩ := la_du (wr := wr') (nx := nx') (rm := rm') (sh := sh') (rp := rp') (ir := ir') (nw := nw') (cw := cw') (ss := ss') (ct := ct') (sa := sa') (ms := ms') (sr := sr') (rv := rv') (mr := mr') (rx := rx') (rr := rr') (am := am') (tp := tp') (pc := pc') (ps := ps') (ur := ur') (rt := rt') (ds := ds') (un := un') (tl := tl') (ro := ro') (lm := lm') (ry := ry') (hr := hr') (dc := dc') (bs := bs') (re := re') (sd := sd') (la := la') (dl := dl') (lo := lo') (ep := ep') (ts := ts') (fl := fl') (ta := ta') (rb := rb') (mk := mk') (aa := aa') (ax := ax') (ap := ap') (s := s) (x := x) hI' hs (fun z => p0 (hpx.mpr z))
    obtain ⟨wq, nq, rq, sq, pq, irq, nwq, cwq, ssq, ctq, saq, msq, srq, rvq, mrq, rxq, rrq, amq, tpq, pcq, psq, urq, rtq, dsq, unq, tlq, roq, lmq, ryq, hrq, dcq, bsq, req, sdq, laq, dlq, loq, epq, tsq, flq, taq, rbq, mkq, aaq, axq, apq, rfl, rfl, hq⟩ := R2
    obtain ⟨t, u, v, hX, hY, R'⟩ := la_13 (wr := wq) (nx := nq) (rm := rq) (sh := sq) (rp := pq) (ir := irq) (nw := nwq) (cw := cwq) (ss := ssq) (ct := ctq) (sa := saq) (ms := msq) (sr := srq) (rv := rvq) (mr := mrq) (rx := rxq) (rr := rrq) (am := amq) (tp := tpq) (pc := pcq) (ps := psq) (ur := urq) (rt := rtq) (ds := dsq) (un := unq) (tl := tlq) (ro := roq) (lm := lmq) (ry := ryq) (hr := hrq) (dc := dcq) (bs := bsq) (re := req) (sd := sdq) (la := laq) (dl := dlq) (lo := loq) (ep := epq) (ts := tsq) (fl := flq) (ta := taq) (rb := rbq) (mk := mkq) (aa := aaq) (ax := axq) (ap := apq) hq
    exact ⟨t, u, v, fun P hp => hX1 _ (br_f p0 (hX2 _ (hX P hp))), fun P hp => hY1 P x (nI s) (hY2 P (hY P hp)), R'⟩
end
end
section
/-! the calls: arrivals -/
section
variable {ir nw cw ss ct sa ms sr rv mr rx rr am tp pc ps ur rt ds un tl ro lm : Int32} {wr nx tc rm sh rp : Nat} {bs re sd la dl lo ep ts fl ta : Nat → Int32} {ry hr dc : Int32} {rb mk aa ax ap : Nat → Int32} {j k : Nat}
theorem xe_no {P : Int32 → SX → Prop} {x : Int32} (h : x < 0 ∨ nI tc ≤ x) (hp : P (-1) (ir, nw, cw, ss, ct, sa, nI wr, nI nx, nI tc, ms, sr, rv, mr, rx, rr, nI rm, nI sh, am, tp, pc, ps, ur, nI rp, rt, ds, un, tl, ro, lm, bs, re, sd, la, dl, lo, ep, ts, fl, ta)) : wpX_arrive P (ir, nw, cw, ss, ct, sa, nI wr, nI nx, nI tc, ms, sr, rv, mr, rx, rr, nI rm, nI sh, am, tp, pc, ps, ur, nI rp, rt, ds, un, tl, ro, lm, bs, re, sd, la, dl, lo, ep, ts, fl, ta) x := by
  unfold wpX_arrive
  exact xd_id0 h (br_t rfl hp)
theorem xe_old {P : Int32 → SX → Prop} (ht : tc ≤ 256) (hj : j < tc) (hf : ¬ fl j &&& 256 = 0) (hp : P (-1) (ir, nw, cw, ss, ct, sa, nI wr, nI nx, nI tc, ms, sr, rv, mr, rx, rr, nI rm, nI sh, am, tp, pc, ps, ur, nI rp, rt, ds, un, tl, ro, lm, bs, re, sd, la, dl, lo, ep, ts, fl, ta)) : wpX_arrive P (ir, nw, cw, ss, ct, sa, nI wr, nI nx, nI tc, ms, sr, rv, mr, rx, rr, nI rm, nI sh, am, tp, pc, ps, ur, nI rp, rt, ds, un, tl, ro, lm, bs, re, sd, la, dl, lo, ep, ts, fl, ta) (nI j) := by
  unfold wpX_arrive
  exact xd_id1 ht hj (br_f (by decide) ⟨rt_i2 (by omega), br_f (by rw [rt_cp (by omega)]; exact hf) hp⟩)
theorem xe_new {P : Int32 → SX → Prop} (ht : tc ≤ 256) (hj : j < tc) (hf : fl j &&& 256 = 0) (hk : k < 64) (ek : ts j = nI k) (hr0 : re k = 0) (hp : P 1 (ir, nw, cw, ss, ct, sa, nI wr, nI nx, nI tc, ms, sr, rv, mr, rx, rr, nI rm, nI sh, am, tp, pc, ps, ur, nI rp, rt, ds, un, tl, ro, lm, bs, upd re k 1, sd, la, dl, lo, ep, ts, upd fl j (fl j ||| 256), ta)) : wpX_arrive P (ir, nw, cw, ss, ct, sa, nI wr, nI nx, nI tc, ms, sr, rv, mr, rx, rr, nI rm, nI sh, am, tp, pc, ps, ur, nI rp, rt, ds, un, tl, ro, lm, bs, re, sd, la, dl, lo, ep, ts, fl, ta) (nI j) := by
  unfold wpX_arrive
  have ji : vp_in (nI j) 256 := rt_i2 (by omega)
  exact xd_id1 ht hj (br_f (by decide) ⟨ji, br_t (by rw [rt_cp (by omega)]; exact hf) ⟨ji, nm_r (e' := nI k) (by rw [rt_cp (by omega)]; exact ek) ⟨ji, ji, nm_r (e' := upd fl j (fl j ||| 256)) (by rw [rt_ua (by omega), rt_cp (by omega)]) ⟨rt_in hk, br_t (by rw [rt_cp (by omega)]; exact hr0) ⟨rt_in hk, nm_r (e' := upd re k 1) (by rw [rt_ua (by omega), rt_n1]) hp⟩⟩⟩⟩⟩)
theorem xe_dup {P : Int32 → SX → Prop} (ht : tc ≤ 256) (hj : j < tc) (hf : fl j &&& 256 = 0) (hk : k < 64) (ek : ts j = nI k) (hr0 : ¬ re k = 0) (hp : P 2 (ir, nw, cw, ss, ct, sa, nI wr, nI nx, nI tc, ms, sr, rv, mr, rx, rr, nI rm, nI sh, am, tp, pc, ps, ur, nI rp, rt, ds, un, tl, ro, lm, bs, re, sd, la, dl, lo, ep, ts, upd fl j (fl j ||| 256), ta)) : wpX_arrive P (ir, nw, cw, ss, ct, sa, nI wr, nI nx, nI tc, ms, sr, rv, mr, rx, rr, nI rm, nI sh, am, tp, pc, ps, ur, nI rp, rt, ds, un, tl, ro, lm, bs, re, sd, la, dl, lo, ep, ts, fl, ta) (nI j) := by
  unfold wpX_arrive
  have ji : vp_in (nI j) 256 := rt_i2 (by omega)
  exact xd_id1 ht hj (br_f (by decide) ⟨ji, br_t (by rw [rt_cp (by omega)]; exact hf) ⟨ji, nm_r (e' := nI k) (by rw [rt_cp (by omega)]; exact ek) ⟨ji, ji, nm_r (e' := upd fl j (fl j ||| 256)) (by rw [rt_ua (by omega), rt_cp (by omega)]) ⟨rt_in hk, br_f (by rw [rt_cp (by omega)]; exact hr0) hp⟩⟩⟩⟩)
theorem ye_no {P : Int32 → SY → Prop} {x w : Int32} (h : x < 0 ∨ nI tc ≤ x) (hp : P (-1) (ir, nI wr, nI tc, nw, cw, ss, ct, sa, nI nx, sr, rv, mr, ry, rr, nI rm, nI sh, am, pc, ps, ur, nI rp, rt, ds, un, tl, ro, lm, dc, ms, ms, hr, tp, bs, rb, re, sd, la, dl, lo, ep, mk, ts, ta, aa, ax, ap)) : wpY_arrive P (ir, nI wr, nI tc, nw, cw, ss, ct, sa, nI nx, sr, rv, mr, ry, rr, nI rm, nI sh, am, pc, ps, ur, nI rp, rt, ds, un, tl, ro, lm, dc, ms, ms, hr, tp, bs, rb, re, sd, la, dl, lo, ep, mk, ts, ta, aa, ax, ap) x w := by
  by_cases z : x < 0
  · exact br_t z hp
  · exact br_f z (br_t (h.elim (fun y => absurd y z) id) hp)
theorem ye_old {P : Int32 → SY → Prop} {w : Int32} (ht : tc ≤ 256) (hj : j < tc) (hf : ¬ aa j = 0) (hp : P (-1) (ir, nI wr, nI tc, nw, cw, ss, ct, sa, nI nx, sr, rv, mr, ry, rr, nI rm, nI sh, am, pc, ps, ur, nI rp, rt, ds, un, tl, ro, lm, dc, ms, ms, hr, tp, bs, rb, re, sd, la, dl, lo, ep, mk, ts, ta, aa, ax, ap)) : wpY_arrive P (ir, nI wr, nI tc, nw, cw, ss, ct, sa, nI nx, sr, rv, mr, ry, rr, nI rm, nI sh, am, pc, ps, ur, nI rp, rt, ds, un, tl, ro, lm, dc, ms, ms, hr, tp, bs, rb, re, sd, la, dl, lo, ep, mk, ts, ta, aa, ax, ap) (nI j) w :=
  br_f (nI_pos (by omega)) (br_f (nI_ge hj (by omega)) ⟨rt_i2 (by omega), br_f (by rw [rt_cp (by omega)]; exact hf) hp⟩)
theorem ye_new {P : Int32 → SY → Prop} {w : Int32} (ht : tc ≤ 256) (hj : j < tc) (hf : aa j = 0) (hk : k < 64) (ek : ts j = nI k) (hr0 : re k = 0) (hp : wY_arrive_69 P w (nI k) 0 ir (nI wr) (nI tc) nw cw ss ct sa (nI nx) sr rv mr ry rr (nI rm) (nI sh) am pc ps ur (nI rp) rt ds un tl ro lm dc ms ms hr tp bs (upd rb k (bs k)) (upd re k 1) sd la dl lo ep mk ts ta (upd aa j 1) ax ap) : wpY_arrive P (ir, nI wr, nI tc, nw, cw, ss, ct, sa, nI nx, sr, rv, mr, ry, rr, nI rm, nI sh, am, pc, ps, ur, nI rp, rt, ds, un, tl, ro, lm, dc, ms, ms, hr, tp, bs, rb, re, sd, la, dl, lo, ep, mk, ts, ta, aa, ax, ap) (nI j) w := by
  have ji : vp_in (nI j) 256 := rt_i2 (by omega)
  exact br_f (nI_pos (by omega)) (br_f (nI_ge hj (by omega)) ⟨ji, br_t (by rw [rt_cp (by omega)]; exact hf) ⟨ji, nm_r (e' := upd aa j 1) (by rw [rt_ua (by omega), rt_n1]) ⟨ji, nm_r (e' := nI k) (by rw [rt_cp (by omega)]; exact ek) ⟨rt_in hk, nm_r (e' := 0) (by rw [rt_cp (by omega)]; exact hr0) (br_t rfl ⟨rt_in hk, nm_r (e' := upd re k 1) (by rw [rt_ua (by omega), rt_n1]) ⟨rt_in hk, rt_in hk, nm_r (e' := upd rb k (bs k)) (by rw [rt_ua (by omega), rt_cp (by omega)]) hp⟩⟩)⟩⟩⟩⟩)
theorem ye_dup {P : Int32 → SY → Prop} {w : Int32} (ht : tc ≤ 256) (hj : j < tc) (hf : aa j = 0) (hk : k < 64) (ek : ts j = nI k) (hr0 : ¬ re k = 0) (hp : wY_arrive_69 P w (nI k) (re k) ir (nI wr) (nI tc) nw cw ss ct sa (nI nx) sr rv mr ry rr (nI rm) (nI sh) am pc ps ur (nI rp) rt ds un tl ro lm dc ms ms hr tp bs rb re sd la dl lo ep mk ts ta (upd aa j 1) ax ap) : wpY_arrive P (ir, nI wr, nI tc, nw, cw, ss, ct, sa, nI nx, sr, rv, mr, ry, rr, nI rm, nI sh, am, pc, ps, ur, nI rp, rt, ds, un, tl, ro, lm, dc, ms, ms, hr, tp, bs, rb, re, sd, la, dl, lo, ep, mk, ts, ta, aa, ax, ap) (nI j) w := by
  have ji : vp_in (nI j) 256 := rt_i2 (by omega)
  exact br_f (nI_pos (by omega)) (br_f (nI_ge hj (by omega)) ⟨ji, br_t (by rw [rt_cp (by omega)]; exact hf) ⟨ji, nm_r (e' := upd aa j 1) (by rw [rt_ua (by omega), rt_n1]) ⟨ji, nm_r (e' := nI k) (by rw [rt_cp (by omega)]; exact ek) ⟨rt_in hk, nm_r (e' := re k) (by rw [rt_cp (by omega)]) (br_f hr0 hp)⟩⟩⟩⟩)
theorem rt_IB_n {re rb bs : Nat → Int32} {k : Nat} (h : rt_IB re rb bs) : rt_IB (upd re k 1) (upd rb k (bs k)) bs := fun s hs => by
  by_cases z : s = k
  · subst z; exact pk_us
  · rw [pk_un z] at hs ⊢; exact h s hs
theorem la_dn {x : Int32} (hI : rt_IV nx wr tc rp sh rm rx ry hr dc bs re sd la dl lo ts fl rb aa ax ap) : ∃ (t : Nat) (r : Int32) (u : SX) (v : SY), (∀ P : Int32 → SX → Prop, P r u → wpX_deliverNoAck P (ir, nw, cw, ss, ct, sa, nI wr, nI nx, nI tc, ms, sr, rv, mr, rx, rr, nI rm, nI sh, am, tp, pc, ps, ur, nI rp, rt, ds, un, tl, ro, lm, bs, re, sd, la, dl, lo, ep, ts, fl, ta) x) ∧ (∀ P : Int32 → SY → Prop, P r v → wpY_deliverNoAck P (ir, nI wr, nI tc, nw, cw, ss, ct, sa, nI nx, sr, rv, mr, ry, rr, nI rm, nI sh, am, pc, ps, ur, nI rp, rt, ds, un, tl, ro, lm, dc, ms, ms, hr, tp, bs, rb, re, sd, la, dl, lo, ep, mk, ts, ta, aa, ax, ap) x) ∧ rt_RL t u v := by
  have hI0 := hI
  obtain ⟨⟨n1, n2, n3, n4, n5, n6⟩, hS, hZl, hZd, hZr, hL, hT, hK, hF, hB, hC⟩ := hI0
  have NO : (x < 0 ∨ nI tc ≤ x) → ∃ (t : Nat) (r : Int32) (u : SX) (v : SY), (∀ P : Int32 → SX → Prop, P r u → wpX_deliverNoAck P (ir, nw, cw, ss, ct, sa, nI wr, nI nx, nI tc, ms, sr, rv, mr, rx, rr, nI rm, nI sh, am, tp, pc, ps, ur, nI rp, rt, ds, un, tl, ro, lm, bs, re, sd, la, dl, lo, ep, ts, fl, ta) x) ∧ (∀ P : Int32 → SY → Prop, P r v → wpY_deliverNoAck P (ir, nI wr, nI tc, nw, cw, ss, ct, sa, nI nx, sr, rv, mr, ry, rr, nI rm, nI sh, am, pc, ps, ur, nI rp, rt, ds, un, tl, ro, lm, dc, ms, ms, hr, tp, bs, rb, re, sd, la, dl, lo, ep, mk, ts, ta, aa, ax, ap) x) ∧ rt_RL t u v := by
    intro h
    refine ⟨tc, -1, (ir, nw, cw, ss, ct, sa, nI wr, nI nx, nI tc, ms, sr, rv, mr, rx, rr, nI rm, nI sh, am, tp, pc, ps, ur, nI rp, rt, ds, un, tl, ro, lm, bs, re, sd, la, dl, lo, ep, ts, fl, ta), (ir, nI wr, nI tc, nw, cw, ss, ct, sa, nI nx, sr, rv, mr, ry, rr, nI rm, nI sh, am, pc, ps, ur, nI rp, rt, ds, un, tl, ro, lm, dc, ms, ms, hr, tp, bs, rb, re, sd, la, dl, lo, ep, mk, ts, ta, aa, ax, ap), fun P hp => ?_, fun P hp => ?_, rt_RLi hI⟩
    · unfold wpX_deliverNoAck
      exact xe_no h hp
    · unfold wpY_deliverNoAck
      exact ye_no h hp
  rcases pk_ix x (n := tc) (by omega) with h | h | ⟨j, hj, rfl⟩
  · exact NO (Or.inl h)
  · exact NO (Or.inr h)
  · have hA := rt_IF_arr hF hj
    obtain ⟨k, hk, ek⟩ := hT j hj
    by_cases a0 : aa j = 0
    · by_cases r0 : re k = 0
      · refine ⟨tc, 1, (ir, nw, cw, ss, ct, sa, nI wr, nI nx, nI tc, ms, sr, rv, mr, rx, rr, nI rm, nI sh, am, tp, pc, ps, ur, nI rp, rt, ds, un, tl, ro, lm, bs, upd re k 1, sd, la, dl, lo, ep, ts, upd fl j (fl j ||| 256), ta), (ir, nI wr, nI tc, nw, cw, ss, ct, sa, nI nx, sr, rv, mr, ry, rr, nI rm, nI sh, am, pc, ps, ur, nI rp, rt, ds, un, tl, ro, lm, dc, ms, ms, hr, tp, bs, upd rb k (bs k), upd re k 1, sd, la, dl, lo, ep, mk, ts, ta, upd aa j 1, ax, ap), fun P hp => ?_, fun P hp => ?_, rt_RLi ⟨⟨n1, n2, n3, n4, n5, n6⟩, hS, hZl, hZd, rt_IZ_u hZr hk 1, hL, hT, hK, rt_IF_a hF hj, rt_IB_n hB, hC⟩⟩
        · unfold wpX_deliverNoAck
          exact xe_new n3 hj (hA.mpr a0) (by omega) ek r0 hp
        · unfold wpY_deliverNoAck
          exact ye_new n3 hj a0 (by omega) ek r0 (br_t rfl (br_t rfl hp))
      · refine ⟨tc, 2, (ir, nw, cw, ss, ct, sa, nI wr, nI nx, nI tc, ms, sr, rv, mr, rx, rr, nI rm, nI sh, am, tp, pc, ps, ur, nI rp, rt, ds, un, tl, ro, lm, bs, re, sd, la, dl, lo, ep, ts, upd fl j (fl j ||| 256), ta), (ir, nI wr, nI tc, nw, cw, ss, ct, sa, nI nx, sr, rv, mr, ry, rr, nI rm, nI sh, am, pc, ps, ur, nI rp, rt, ds, un, tl, ro, lm, dc, ms, ms, hr, tp, bs, rb, re, sd, la, dl, lo, ep, mk, ts, ta, upd aa j 1, ax, ap), fun P hp => ?_, fun P hp => ?_, rt_RLi ⟨⟨n1, n2, n3, n4, n5, n6⟩, hS, hZl, hZd, hZr, hL, hT, hK, rt_IF_a hF hj, hB, hC⟩⟩
        · unfold wpX_deliverNoAck
          exact xe_dup n3 hj (hA.mpr a0) (by omega) ek r0 hp
        · unfold wpY_deliverNoAck
          exact ye_dup n3 hj a0 (by omega) ek r0 (br_t rfl (br_f r0 hp))
    · refine ⟨tc, -1, (ir, nw, cw, ss, ct, sa, nI wr, nI nx, nI tc, ms, sr, rv, mr, rx, rr, nI rm, nI sh, am, tp, pc, ps, ur, nI rp, rt, ds, un, tl, ro, lm, bs, re, sd, la, dl, lo, ep, ts, fl, ta), (ir, nI wr, nI tc, nw, cw, ss, ct, sa, nI nx, sr, rv, mr, ry, rr, nI rm, nI sh, am, pc, ps, ur, nI rp, rt, ds, un, tl, ro, lm, dc, ms, ms, hr, tp, bs, rb, re, sd, la, dl, lo, ep, mk, ts, ta, aa, ax, ap), fun P hp => ?_, fun P hp => ?_, rt_RLi hI⟩
      · unfold wpX_deliverNoAck
        exact xe_old n3 hj (fun z => a0 (hA.mp z)) hp
      · unfold wpY_deliverNoAck
        exact ye_old n3 hj a0 hp
theorem la_dv {x : Int32} (hI : rt_IV nx wr tc rp sh rm rx ry hr dc bs re sd la dl lo ts fl rb aa ax ap) : ∃ (t : Nat) (r : Int32) (u : SX) (v : SY), (∀ P : Int32 → SX → Prop, P r u → wpX_deliver P (ir, nw, cw, ss, ct, sa, nI wr, nI nx, nI tc, ms, sr, rv, mr, rx, rr, nI rm, nI sh, am, tp, pc, ps, ur, nI rp, rt, ds, un, tl, ro, lm, bs, re, sd, la, dl, lo, ep, ts, fl, ta) x) ∧ (∀ P : Int32 → SY → Prop, P r v → wpY_deliver P (ir, nI wr, nI tc, nw, cw, ss, ct, sa, nI nx, sr, rv, mr, ry, rr, nI rm, nI sh, am, pc, ps, ur, nI rp, rt, ds, un, tl, ro, lm, dc, ms, ms, hr, tp, bs, rb, re, sd, la, dl, lo, ep, mk, ts, ta, aa, ax, ap) x) ∧ rt_RL t u v := by
  have hI0 := hI
  obtain ⟨⟨n1, n2, n3, n4, n5, n6⟩, hS, hZl, hZd, hZr, hL, hT, hK, hF, hB, hC⟩ := hI0
  have NO : (x < 0 ∨ nI tc ≤ x) → ∃ (t : Nat) (r : Int32) (u : SX) (v : SY), (∀ P : Int32 → SX → Prop, P r u → wpX_deliver P (ir, nw, cw, ss, ct, sa, nI wr, nI nx, nI tc, ms, sr, rv, mr, rx, rr, nI rm, nI sh, am, tp, pc, ps, ur, nI rp, rt, ds, un, tl, ro, lm, bs, re, sd, la, dl, lo, ep, ts, fl, ta) x) ∧ (∀ P : Int32 → SY → Prop, P r v → wpY_deliver P (ir, nI wr, nI tc, nw, cw, ss, ct, sa, nI nx, sr, rv, mr, ry, rr, nI rm, nI sh, am, pc, ps, ur, nI rp, rt, ds, un, tl, ro, lm, dc, ms, ms, hr, tp, bs, rb, re, sd, la, dl, lo, ep, mk, ts, ta, aa, ax, ap) x) ∧ rt_RL t u v := by
    intro h
    refine ⟨tc, -1, (ir, nw, cw, ss, ct, sa, nI wr, nI nx, nI tc, ms, sr, rv, mr, rx, rr, nI rm, nI sh, am, tp, pc, ps, ur, nI rp, rt, ds, un, tl, ro, lm, bs, re, sd, la, dl, lo, ep, ts, fl, ta), (ir, nI wr, nI tc, nw, cw, ss, ct, sa, nI nx, sr, rv, mr, ry, rr, nI rm, nI sh, am, pc, ps, ur, nI rp, rt, ds, un, tl, ro, lm, dc, ms, ms, hr, tp, bs, rb, re, sd, la, dl, lo, ep, mk, ts, ta, aa, ax, ap), fun P hp => ?_, fun P hp => ?_, rt_RLi hI⟩
    · unfold wpX_deliver
      exact xe_no h (br_t rfl hp)
    · unfold wpY_deliver
      exact ye_no h hp
  rcases pk_ix x (n := tc) (by omega) with h | h | ⟨j, hj, rfl⟩
  · exact NO (Or.inl h)
  · exact NO (Or.inr h)
  · have hA := rt_IF_arr hF hj
    obtain ⟨k, hk, ek⟩ := hT j hj
    have ej : ts (nI j).toNatClampNeg = nI k := by rw [rt_cp (by omega)]; exact ek
    by_cases a0 : aa j = 0
    · by_cases r0 : re k = 0
      · obtain ⟨t, u, v, hX, hY, R⟩ := la_ak (wr := wr) (nx := nx) (tc := tc) (rm := rm) (sh := sh) (rp := rp) (ir := ir) (nw := nw) (cw := cw) (ss := ss) (ct := ct) (sa := sa) (ms := ms) (sr := sr) (rv := rv) (mr := mr) (rx := rx) (rr := rr) (am := am) (tp := tp) (pc := pc) (ps := ps) (ur := ur) (rt := rt) (ds := ds) (un := un) (tl := tl) (ro := ro) (lm := lm) (ry := ry) (hr := hr) (dc := dc) (bs := bs) (sd := sd) (la := la) (dl := dl) (lo := lo) (ep := ep) (ts := ts) (ta := ta) (mk := mk) (ax := ax) (ap := ap) (fl := upd fl j (fl j ||| 256)) (re := upd re k 1) (aa := upd aa j 1) (rb := upd rb k (bs k)) (s := k) (p := 0) (x := 0) ⟨⟨n1, n2, n3, n4, n5, n6⟩, hS, hZl, hZd, rt_IZ_u hZr hk 1, hL, hT, hK, rt_IF_a hF hj, rt_IB_n hB, hC⟩ (by omega) Iff.rfl
        obtain ⟨wr', nx', rm', sh', rp', ir', nw', cw', ss', ct', sa', ms', sr', rv', mr', rx', rr', am', tp', pc', ps', ur', rt', ds', un', tl', ro', lm', ry', hr', dc', bs', re', sd', la', dl', lo', ep', ts', fl', ta', rb', mk', aa', ax', ap', rfl, rfl, hI'⟩ := R
        refine ⟨t, 1, _, _, fun P hp => ?_, fun P hp => ?_, rt_RLi (wr := wr') (nx := nx') (rm := rm') (sh := sh') (rp := rp') (ir := ir') (nw := nw') (cw := cw') (ss := ss') (ct := ct') (sa := sa') (ms := ms') (sr := sr') (rv := rv') (mr := mr') (rx := rx') (rr := rr') (am := am') (tp := tp') (pc := pc') (ps := ps') (ur := ur') (rt := rt') (ds := ds') (un := un') (tl := tl') (ro := ro') (lm := lm') (ry := ry') (hr := hr') (dc := dc') (bs := bs') (re := re') (sd := sd') (la := la') (dl := dl') (lo := lo') (ep := ep') (ts := ts') (fl := fl') (ta := ta') (rb := rb') (mk := mk') (aa := aa') (ax := ax') (ap := ap') hI'⟩
        · unfold wpX_deliver
          refine xe_new n3 hj (hA.mpr a0) (by omega) ek r0 (br_f (by decide) (br_f (by decide) ⟨rt_i2 (by omega), ?_⟩))
          rw [ej]
          exact hX _ hp
        · unfold wpY_deliver
          exact ye_new n3 hj a0 (by omega) ek r0 (br_f (by decide) (hY _ (br_t rfl hp)))
      · obtain ⟨t, u, v, hX, hY, R⟩ := la_ak (wr := wr) (nx := nx) (tc := tc) (rm := rm) (sh := sh) (rp := rp) (ir := ir) (nw := nw) (cw := cw) (ss := ss) (ct := ct) (sa := sa) (ms := ms) (sr := sr) (rv := rv) (mr := mr) (rx := rx) (rr := rr) (am := am) (tp := tp) (pc := pc) (ps := ps) (ur := ur) (rt := rt) (ds := ds) (un := un) (tl := tl) (ro := ro) (lm := lm) (ry := ry) (hr := hr) (dc := dc) (bs := bs) (re := re) (sd := sd) (la := la) (dl := dl) (lo := lo) (ep := ep) (ts := ts) (ta := ta) (rb := rb) (mk := mk) (ax := ax) (ap := ap) (fl := upd fl j (fl j ||| 256)) (aa := upd aa j 1) (s := k) (p := 1) (x := re k) ⟨⟨n1, n2, n3, n4, n5, n6⟩, hS, hZl, hZd, hZr, hL, hT, hK, rt_IF_a hF hj, hB, hC⟩ (by omega) ⟨fun z => absurd z (by decide), fun z => absurd z r0⟩
        obtain ⟨wr', nx', rm', sh', rp', ir', nw', cw', ss', ct', sa', ms', sr', rv', mr', rx', rr', am', tp', pc', ps', ur', rt', ds', un', tl', ro', lm', ry', hr', dc', bs', re', sd', la', dl', lo', ep', ts', fl', ta', rb', mk', aa', ax', ap', rfl, rfl, hI'⟩ := R
        refine ⟨t, 2, _, _, fun P hp => ?_, fun P hp => ?_, rt_RLi (wr := wr') (nx := nx') (rm := rm') (sh := sh') (rp := rp') (ir := ir') (nw := nw') (cw := cw') (ss := ss') (ct := ct') (sa := sa') (ms := ms') (sr := sr') (rv := rv') (mr := mr') (rx := rx') (rr := rr') (am := am') (tp := tp') (pc := pc') (ps := ps') (ur := ur') (rt := rt') (ds := ds') (un := un') (tl := tl') (ro := ro') (lm := lm') (ry := ry') (hr := hr') (dc := dc') (bs := bs') (re := re') (sd := sd') (la := la') (dl := dl') (lo := lo') (ep := ep') (ts := ts') (fl := fl') (ta := ta') (rb := rb') (mk := mk') (aa := aa') (ax := ax') (ap := ap') hI'⟩
        · unfold wpX_deliver
          refine xe_dup n3 hj (hA.mpr a0) (by omega) ek r0 (br_f (by decide) (br_t rfl ⟨rt_i2 (by omega), ?_⟩))
          rw [ej]
          exact hX _ hp
        · unfold wpY_deliver
          exact ye_dup n3 hj a0 (by omega) ek r0 (br_f (by decide) (hY _ (br_f r0 hp)))
    · refine ⟨tc, -1, (ir, nw, cw, ss, ct, sa, nI wr, nI nx, nI tc, ms, sr, rv, mr, rx, rr, nI rm, nI sh, am, tp, pc, ps, ur, nI rp, rt, ds, un, tl, ro, lm, bs, re, sd, la, dl, lo, ep, ts, fl, ta), (ir, nI wr, nI tc, nw, cw, ss, ct, sa, nI nx, sr, rv, mr, ry, rr, nI rm, nI sh, am, pc, ps, ur, nI rp, rt, ds, un, tl, ro, lm, dc, ms, ms, hr, tp, bs, rb, re, sd, la, dl, lo, ep, mk, ts, ta, aa, ax, ap), fun P hp => ?_, fun P hp => ?_, rt_RLi hI⟩
      · unfold wpX_deliver
        exact xe_old n3 hj (fun z => a0 (hA.mp z)) (br_t rfl hp)
      · unfold wpY_deliver
        exact ye_old n3 hj a0 hp
end
end
section
/-! the calls that only read, one statistic after the other -/
section
variable {ir nw cw ss ct sa ms sr rv mr rx rr am tp pc ps ur rt ds un tl ro lm : Int32} {wr nx tc rm sh rp : Nat} {bs re sd la dl lo ep ts fl ta : Nat → Int32} {ry hr dc : Int32} {rb mk aa ax ap : Nat → Int32} {post : Int32 → Prop} {s j : Nat}
theorem lh_s0 (hI : rt_IV nx wr tc rp sh rm rx ry hr dc bs re sd la dl lo ts fl rb aa ax ap) : ∃ r : Int32, (∀ P : Int32 → Prop, P r → wpX_stat P (ir, nw, cw, ss, ct, sa, nI wr, nI nx, nI tc, ms, sr, rv, mr, rx, rr, nI rm, nI sh, am, tp, pc, ps, ur, nI rp, rt, ds, un, tl, ro, lm, bs, re, sd, la, dl, lo, ep, ts, fl, ta) 0) ∧ (∀ P : Int32 → Prop, P r → wpY_stat P (ir, nI wr, nI tc, nw, cw, ss, ct, sa, nI nx, sr, rv, mr, ry, rr, nI rm, nI sh, am, pc, ps, ur, nI rp, rt, ds, un, tl, ro, lm, dc, ms, ms, hr, tp, bs, rb, re, sd, la, dl, lo, ep, mk, ts, ta, aa, ax, ap) 0) := ⟨nw, fun P hp => br_f (by decide) (br_f (by decide) (br_t rfl (hp))), fun P hp => br_f (by decide) (br_f (by decide) (br_t rfl (hp)))⟩
theorem lh_s1 (hI : rt_IV nx wr tc rp sh rm rx ry hr dc bs re sd la dl lo ts fl rb aa ax ap) : ∃ r : Int32, (∀ P : Int32 → Prop, P r → wpX_stat P (ir, nw, cw, ss, ct, sa, nI wr, nI nx, nI tc, ms, sr, rv, mr, rx, rr, nI rm, nI sh, am, tp, pc, ps, ur, nI rp, rt, ds, un, tl, ro, lm, bs, re, sd, la, dl, lo, ep, ts, fl, ta) 1) ∧ (∀ P : Int32 → Prop, P r → wpY_stat P (ir, nI wr, nI tc, nw, cw, ss, ct, sa, nI nx, sr, rv, mr, ry, rr, nI rm, nI sh, am, pc, ps, ur, nI rp, rt, ds, un, tl, ro, lm, dc, ms, ms, hr, tp, bs, rb, re, sd, la, dl, lo, ep, mk, ts, ta, aa, ax, ap) 1) := ⟨cw, fun P hp => br_f (by decide) (br_f (by decide) (br_f (by decide) (br_t rfl (hp)))), fun P hp => br_f (by decide) (br_f (by decide) (br_f (by decide) (br_t rfl (hp))))⟩
theorem lh_s2 (hI : rt_IV nx wr tc rp sh rm rx ry hr dc bs re sd la dl lo ts fl rb aa ax ap) : ∃ r : Int32, (∀ P : Int32 → Prop, P r → wpX_stat P (ir, nw, cw, ss, ct, sa, nI wr, nI nx, nI tc, ms, sr, rv, mr, rx, rr, nI rm, nI sh, am, tp, pc, ps, ur, nI rp, rt, ds, un, tl, ro, lm, bs, re, sd, la, dl, lo, ep, ts, fl, ta) 2) ∧ (∀ P : Int32 → Prop, P r → wpY_stat P (ir, nI wr, nI tc, nw, cw, ss, ct, sa, nI nx, sr, rv, mr, ry, rr, nI rm, nI sh, am, pc, ps, ur, nI rp, rt, ds, un, tl, ro, lm, dc, ms, ms, hr, tp, bs, rb, re, sd, la, dl, lo, ep, mk, ts, ta, aa, ax, ap) 2) := ⟨ss, fun P hp => br_f (by decide) (br_f (by decide) (br_f (by decide) (br_f (by decide) (br_t rfl (hp))))), fun P hp => br_f (by decide) (br_f (by decide) (br_f (by decide) (br_f (by decide) (br_t rfl (hp)))))⟩
theorem lh_s3 (hI : rt_IV nx wr tc rp sh rm rx ry hr dc bs re sd la dl lo ts fl rb aa ax ap) : ∃ r : Int32, (∀ P : Int32 → Prop, P r → wpX_stat P (ir, nw, cw, ss, ct, sa, nI wr, nI nx, nI tc, ms, sr, rv, mr, rx, rr, nI rm, nI sh, am, tp, pc, ps, ur, nI rp, rt, ds, un, tl, ro, lm, bs, re, sd, la, dl, lo, ep, ts, fl, ta) 3) ∧ (∀ P : Int32 → Prop, P r → wpY_stat P (ir, nI wr, nI tc, nw, cw, ss, ct, sa, nI nx, sr, rv, mr, ry, rr, nI rm, nI sh, am, pc, ps, ur, nI rp, rt, ds, un, tl, ro, lm, dc, ms, ms, hr, tp, bs, rb, re, sd, la, dl, lo, ep, mk, ts, ta, aa, ax, ap) 3) := ⟨sa, fun P hp => br_f (by decide) (br_f (by decide) (br_f (by decide) (br_f (by decide) (br_f (by decide) (br_t rfl (hp)))))), fun P hp => br_f (by decide) (br_f (by decide) (br_f (by decide) (br_f (by decide) (br_f (by decide) (br_t rfl (hp))))))⟩
theorem lh_s4 (hI : rt_IV nx wr tc rp sh rm rx ry hr dc bs re sd la dl lo ts fl rb aa ax ap) : ∃ r : Int32, (∀ P : Int32 → Prop, P r → wpX_stat P (ir, nw, cw, ss, ct, sa, nI wr, nI nx, nI tc, ms, sr, rv, mr, rx, rr, nI rm, nI sh, am, tp, pc, ps, ur, nI rp, rt, ds, un, tl, ro, lm, bs, re, sd, la, dl, lo, ep, ts, fl, ta) 4) ∧ (∀ P : Int32 → Prop, P r → wpY_stat P (ir, nI wr, nI tc, nw, cw, ss, ct, sa, nI nx, sr, rv, mr, ry, rr, nI rm, nI sh, am, pc, ps, ur, nI rp, rt, ds, un, tl, ro, lm, dc, ms, ms, hr, tp, bs, rb, re, sd, la, dl, lo, ep, mk, ts, ta, aa, ax, ap) 4) := by
  by_cases z : ms = 0
  · exact ⟨-1, fun P hp => br_f (by decide) (br_f (by decide) (br_f (by decide) (br_f (by decide) (br_f (by decide) (br_f (by decide) (br_t rfl (br_t z hp))))))), fun P hp => br_f (by decide) (br_f (by decide) (br_f (by decide) (br_f (by decide) (br_f (by decide) (br_f (by decide) (br_t rfl (br_t z hp)))))))⟩
  · exact ⟨sr, fun P hp => br_f (by decide) (br_f (by decide) (br_f (by decide) (br_f (by decide) (br_f (by decide) (br_f (by decide) (br_t rfl (br_f z (hp)))))))), fun P hp => br_f (by decide) (br_f (by decide) (br_f (by decide) (br_f (by decide) (br_f (by decide) (br_f (by decide) (br_t rfl (br_f z (hp))))))))⟩
theorem lh_s5 (hI : rt_IV nx wr tc rp sh rm rx ry hr dc bs re sd la dl lo ts fl rb aa ax ap) : ∃ r : Int32, (∀ P : Int32 → Prop, P r → wpX_stat P (ir, nw, cw, ss, ct, sa, nI wr, nI nx, nI tc, ms, sr, rv, mr, rx, rr, nI rm, nI sh, am, tp, pc, ps, ur, nI rp, rt, ds, un, tl, ro, lm, bs, re, sd, la, dl, lo, ep, ts, fl, ta) 5) ∧ (∀ P : Int32 → Prop, P r → wpY_stat P (ir, nI wr, nI tc, nw, cw, ss, ct, sa, nI nx, sr, rv, mr, ry, rr, nI rm, nI sh, am, pc, ps, ur, nI rp, rt, ds, un, tl, ro, lm, dc, ms, ms, hr, tp, bs, rb, re, sd, la, dl, lo, ep, mk, ts, ta, aa, ax, ap) 5) := by
  by_cases z : ms = 0
  · exact ⟨-1, fun P hp => br_f (by decide) (br_f (by decide) (br_f (by decide) (br_f (by decide) (br_f (by decide) (br_f (by decide) (br_f (by decide) (br_t rfl (br_t z hp)))))))), fun P hp => br_f (by decide) (br_f (by decide) (br_f (by decide) (br_f (by decide) (br_f (by decide) (br_f (by decide) (br_f (by decide) (br_t rfl (br_t z hp))))))))⟩
  · exact ⟨rv, fun P hp => br_f (by decide) (br_f (by decide) (br_f (by decide) (br_f (by decide) (br_f (by decide) (br_f (by decide) (br_f (by decide) (br_t rfl (br_f z (hp))))))))), fun P hp => br_f (by decide) (br_f (by decide) (br_f (by decide) (br_f (by decide) (br_f (by decide) (br_f (by decide) (br_f (by decide) (br_t rfl (br_f z (hp)))))))))⟩
theorem lh_s6 (hI : rt_IV nx wr tc rp sh rm rx ry hr dc bs re sd la dl lo ts fl rb aa ax ap) : ∃ r : Int32, (∀ P : Int32 → Prop, P r → wpX_stat P (ir, nw, cw, ss, ct, sa, nI wr, nI nx, nI tc, ms, sr, rv, mr, rx, rr, nI rm, nI sh, am, tp, pc, ps, ur, nI rp, rt, ds, un, tl, ro, lm, bs, re, sd, la, dl, lo, ep, ts, fl, ta) 6) ∧ (∀ P : Int32 → Prop, P r → wpY_stat P (ir, nI wr, nI tc, nw, cw, ss, ct, sa, nI nx, sr, rv, mr, ry, rr, nI rm, nI sh, am, pc, ps, ur, nI rp, rt, ds, un, tl, ro, lm, dc, ms, ms, hr, tp, bs, rb, re, sd, la, dl, lo, ep, mk, ts, ta, aa, ax, ap) 6) := by
  by_cases z : ms = 0
  · exact ⟨-1, fun P hp => br_f (by decide) (br_f (by decide) (br_f (by decide) (br_f (by decide) (br_f (by decide) (br_f (by decide) (br_f (by decide) (br_f (by decide) (br_t rfl (br_t z hp))))))))), fun P hp => br_f (by decide) (br_f (by decide) (br_f (by decide) (br_f (by decide) (br_f (by decide) (br_f (by decide) (br_f (by decide) (br_f (by decide) (br_t rfl (br_t z hp)))))))))⟩
  · exact ⟨mr, fun P hp => br_f (by decide) (br_f (by decide) (br_f (by decide) (br_f (by decide) (br_f (by decide) (br_f (by decide) (br_f (by decide) (br_f (by decide) (br_t rfl (br_f z (hp)))))))))), fun P hp => br_f (by decide) (br_f (by decide) (br_f (by decide) (br_f (by decide) (br_f (by decide) (br_f (by decide) (br_f (by decide) (br_f (by decide) (br_t rfl (br_f z (hp))))))))))⟩
theorem lh_s7 (hI : rt_IV nx wr tc rp sh rm rx ry hr dc bs re sd la dl lo ts fl rb aa ax ap) : ∃ r : Int32, (∀ P : Int32 → Prop, P r → wpX_stat P (ir, nw, cw, ss, ct, sa, nI wr, nI nx, nI tc, ms, sr, rv, mr, rx, rr, nI rm, nI sh, am, tp, pc, ps, ur, nI rp, rt, ds, un, tl, ro, lm, bs, re, sd, la, dl, lo, ep, ts, fl, ta) 7) ∧ (∀ P : Int32 → Prop, P r → wpY_stat P (ir, nI wr, nI tc, nw, cw, ss, ct, sa, nI nx, sr, rv, mr, ry, rr, nI rm, nI sh, am, pc, ps, ur, nI rp, rt, ds, un, tl, ro, lm, dc, ms, ms, hr, tp, bs, rb, re, sd, la, dl, lo, ep, mk, ts, ta, aa, ax, ap) 7) := ⟨_, fun P hp => br_f (by decide) (br_f (by decide) (br_f (by decide) (br_f (by decide) (br_f (by decide) (br_f (by decide) (br_f (by decide) (br_f (by decide) (br_f (by decide) (br_t rfl (xa_rw hp)))))))))), fun P hp => br_f (by decide) (br_f (by decide) (br_f (by decide) (br_f (by decide) (br_f (by decide) (br_f (by decide) (br_f (by decide) (br_f (by decide) (br_f (by decide) (br_t rfl (ya_rw hp))))))))))⟩
theorem lh_s8 (hI : rt_IV nx wr tc rp sh rm rx ry hr dc bs re sd la dl lo ts fl rb aa ax ap) : ∃ r : Int32, (∀ P : Int32 → Prop, P r → wpX_stat P (ir, nw, cw, ss, ct, sa, nI wr, nI nx, nI tc, ms, sr, rv, mr, rx, rr, nI rm, nI sh, am, tp, pc, ps, ur, nI rp, rt, ds, un, tl, ro, lm, bs, re, sd, la, dl, lo, ep, ts, fl, ta) 8) ∧ (∀ P : Int32 → Prop, P r → wpY_stat P (ir, nI wr, nI tc, nw, cw, ss, ct, sa, nI nx, sr, rv, mr, ry, rr, nI rm, nI sh, am, pc, ps, ur, nI rp, rt, ds, un, tl, ro, lm, dc, ms, ms, hr, tp, bs, rb, re, sd, la, dl, lo, ep, mk, ts, ta, aa, ax, ap) 8) := ⟨nI rm, fun P hp => br_f (by decide) (br_f (by decide) (br_f (by decide) (br_f (by decide) (br_f (by decide) (br_f (by decide) (br_f (by decide) (br_f (by decide) (br_f (by decide) (br_f (by decide) (br_t rfl (hp))))))))))), fun P hp => br_f (by decide) (br_f (by decide) (br_f (by decide) (br_f (by decide) (br_f (by decide) (br_f (by decide) (br_f (by decide) (br_f (by decide) (br_f (by decide) (br_f (by decide) (br_t rfl (hp)))))))))))⟩
theorem lh_s9 (hI : rt_IV nx wr tc rp sh rm rx ry hr dc bs re sd la dl lo ts fl rb aa ax ap) : ∃ r : Int32, (∀ P : Int32 → Prop, P r → wpX_stat P (ir, nw, cw, ss, ct, sa, nI wr, nI nx, nI tc, ms, sr, rv, mr, rx, rr, nI rm, nI sh, am, tp, pc, ps, ur, nI rp, rt, ds, un, tl, ro, lm, bs, re, sd, la, dl, lo, ep, ts, fl, ta) 9) ∧ (∀ P : Int32 → Prop, P r → wpY_stat P (ir, nI wr, nI tc, nw, cw, ss, ct, sa, nI nx, sr, rv, mr, ry, rr, nI rm, nI sh, am, pc, ps, ur, nI rp, rt, ds, un, tl, ro, lm, dc, ms, ms, hr, tp, bs, rb, re, sd, la, dl, lo, ep, mk, ts, ta, aa, ax, ap) 9) := ⟨_, fun P hp => br_f (by decide) (br_f (by decide) (br_f (by decide) (br_f (by decide) (br_f (by decide) (br_f (by decide) (br_f (by decide) (br_f (by decide) (br_f (by decide) (br_f (by decide) (br_f (by decide) (br_t rfl (xa_rto hp)))))))))))), fun P hp => br_f (by decide) (br_f (by decide) (br_f (by decide) (br_f (by decide) (br_f (by decide) (br_f (by decide) (br_f (by decide) (br_f (by decide) (br_f (by decide) (br_f (by decide) (br_f (by decide) (br_t rfl (ya_rto hI.1.2.2.2.2.1 hp))))))))))))⟩
theorem lh_s10 (hI : rt_IV nx wr tc rp sh rm rx ry hr dc bs re sd la dl lo ts fl rb aa ax ap) : ∃ r : Int32, (∀ P : Int32 → Prop, P r → wpX_stat P (ir, nw, cw, ss, ct, sa, nI wr, nI nx, nI tc, ms, sr, rv, mr, rx, rr, nI rm, nI sh, am, tp, pc, ps, ur, nI rp, rt, ds, un, tl, ro, lm, bs, re, sd, la, dl, lo, ep, ts, fl, ta) 10) ∧ (∀ P : Int32 → Prop, P r → wpY_stat P (ir, nI wr, nI tc, nw, cw, ss, ct, sa, nI nx, sr, rv, mr, ry, rr, nI rm, nI sh, am, pc, ps, ur, nI rp, rt, ds, un, tl, ro, lm, dc, ms, ms, hr, tp, bs, rb, re, sd, la, dl, lo, ep, mk, ts, ta, aa, ax, ap) 10) := ⟨nI sh, fun P hp => br_f (by decide) (br_f (by decide) (br_f (by decide) (br_f (by decide) (br_f (by decide) (br_f (by decide) (br_f (by decide) (br_f (by decide) (br_f (by decide) (br_f (by decide) (br_f (by decide) (br_f (by decide) (br_t rfl (hp))))))))))))), fun P hp => br_f (by decide) (br_f (by decide) (br_f (by decide) (br_f (by decide) (br_f (by decide) (br_f (by decide) (br_f (by decide) (br_f (by decide) (br_f (by decide) (br_f (by decide) (br_f (by decide) (br_f (by decide) (br_t rfl (hp)))))))))))))⟩
theorem lh_s11 (hI : rt_IV nx wr tc rp sh rm rx ry hr dc bs re sd la dl lo ts fl rb aa ax ap) : ∃ r : Int32, (∀ P : Int32 → Prop, P r → wpX_stat P (ir, nw, cw, ss, ct, sa, nI wr, nI nx, nI tc, ms, sr, rv, mr, rx, rr, nI rm, nI sh, am, tp, pc, ps, ur, nI rp, rt, ds, un, tl, ro, lm, bs, re, sd, la, dl, lo, ep, ts, fl, ta) 11) ∧ (∀ P : Int32 → Prop, P r → wpY_stat P (ir, nI wr, nI tc, nw, cw, ss, ct, sa, nI nx, sr, rv, mr, ry, rr, nI rm, nI sh, am, pc, ps, ur, nI rp, rt, ds, un, tl, ro, lm, dc, ms, ms, hr, tp, bs, rb, re, sd, la, dl, lo, ep, mk, ts, ta, aa, ax, ap) 11) := by
  rcases hI.2.2.2.2.2.2.2.1 with ⟨h1, h2⟩ | ⟨h1, h2⟩
  · exact ⟨rx, fun P hp => br_f (by decide) (br_f (by decide) (br_f (by decide) (br_f (by decide) (br_f (by decide) (br_f (by decide) (br_f (by decide) (br_f (by decide) (br_f (by decide) (br_f (by decide) (br_f (by decide) (br_f (by decide) (br_f (by decide) (br_t rfl (hp)))))))))))))), fun P hp => br_f (by decide) (br_f (by decide) (br_f (by decide) (br_f (by decide) (br_f (by decide) (br_f (by decide) (br_f (by decide) (br_f (by decide) (br_f (by decide) (br_f (by decide) (br_f (by decide) (br_f (by decide) (br_f (by decide) (br_t rfl (br_t h1 (h2 ▸ hp)))))))))))))))⟩
  · exact ⟨rx, fun P hp => br_f (by decide) (br_f (by decide) (br_f (by decide) (br_f (by decide) (br_f (by decide) (br_f (by decide) (br_f (by decide) (br_f (by decide) (br_f (by decide) (br_f (by decide) (br_f (by decide) (br_f (by decide) (br_f (by decide) (br_t rfl (hp)))))))))))))), fun P hp => br_f (by decide) (br_f (by decide) (br_f (by decide) (br_f (by decide) (br_f (by decide) (br_f (by decide) (br_f (by decide) (br_f (by decide) (br_f (by decide) (br_f (by decide) (br_f (by decide) (br_f (by decide) (br_f (by decide) (br_t rfl (br_f h1 (h2 ▸ hp)))))))))))))))⟩
theorem lh_s12 (hI : rt_IV nx wr tc rp sh rm rx ry hr dc bs re sd la dl lo ts fl rb aa ax ap) : ∃ r : Int32, (∀ P : Int32 → Prop, P r → wpX_stat P (ir, nw, cw, ss, ct, sa, nI wr, nI nx, nI tc, ms, sr, rv, mr, rx, rr, nI rm, nI sh, am, tp, pc, ps, ur, nI rp, rt, ds, un, tl, ro, lm, bs, re, sd, la, dl, lo, ep, ts, fl, ta) 12) ∧ (∀ P : Int32 → Prop, P r → wpY_stat P (ir, nI wr, nI tc, nw, cw, ss, ct, sa, nI nx, sr, rv, mr, ry, rr, nI rm, nI sh, am, pc, ps, ur, nI rp, rt, ds, un, tl, ro, lm, dc, ms, ms, hr, tp, bs, rb, re, sd, la, dl, lo, ep, mk, ts, ta, aa, ax, ap) 12) := ⟨rr, fun P hp => br_f (by decide) (br_f (by decide) (br_f (by decide) (br_f (by decide) (br_f (by decide) (br_f (by decide) (br_f (by decide) (br_f (by decide) (br_f (by decide) (br_f (by decide) (br_f (by decide) (br_f (by decide) (br_f (by decide) (br_f (by decide) (br_t rfl (hp))))))))))))))), fun P hp => br_f (by decide) (br_f (by decide) (br_f (by decide) (br_f (by decide) (br_f (by decide) (br_f (by decide) (br_f (by decide) (br_f (by decide) (br_f (by decide) (br_f (by decide) (br_f (by decide) (br_f (by decide) (br_f (by decide) (br_f (by decide) (br_t rfl (hp)))))))))))))))⟩
theorem lh_s13 (hI : rt_IV nx wr tc rp sh rm rx ry hr dc bs re sd la dl lo ts fl rb aa ax ap) : ∃ r : Int32, (∀ P : Int32 → Prop, P r → wpX_stat P (ir, nw, cw, ss, ct, sa, nI wr, nI nx, nI tc, ms, sr, rv, mr, rx, rr, nI rm, nI sh, am, tp, pc, ps, ur, nI rp, rt, ds, un, tl, ro, lm, bs, re, sd, la, dl, lo, ep, ts, fl, ta) 13) ∧ (∀ P : Int32 → Prop, P r → wpY_stat P (ir, nI wr, nI tc, nw, cw, ss, ct, sa, nI nx, sr, rv, mr, ry, rr, nI rm, nI sh, am, pc, ps, ur, nI rp, rt, ds, un, tl, ro, lm, dc, ms, ms, hr, tp, bs, rb, re, sd, la, dl, lo, ep, mk, ts, ta, aa, ax, ap) 13) := by
  obtain ⟨K, A, hK, xk, xt, yk, yt⟩ := la_tm (wr := wr) (nx := nx) (tc := tc) (rm := rm) (sh := sh) (rp := rp) (ir := ir) (nw := nw) (cw := cw) (ss := ss) (ct := ct) (sa := sa) (ms := ms) (sr := sr) (rv := rv) (mr := mr) (rx := rx) (rr := rr) (am := am) (tp := tp) (pc := pc) (ps := ps) (ur := ur) (rt := rt) (ds := ds) (un := un) (tl := tl) (ro := ro) (lm := lm) (ry := ry) (hr := hr) (dc := dc) (bs := bs) (re := re) (sd := sd) (la := la) (dl := dl) (lo := lo) (ep := ep) (ts := ts) (fl := fl) (ta := ta) (rb := rb) (mk := mk) (aa := aa) (ax := ax) (ap := ap) hI
  exact ⟨K, fun P hp => br_f (by decide) (br_f (by decide) (br_f (by decide) (br_f (by decide) (br_f (by decide) (br_f (by decide) (br_f (by decide) (br_f (by decide) (br_f (by decide) (br_f (by decide) (br_f (by decide) (br_f (by decide) (br_f (by decide) (br_f (by decide) (br_f (by decide) (br_t rfl (xk P hp)))))))))))))))), fun P hp => br_f (by decide) (br_f (by decide) (br_f (by decide) (br_f (by decide) (br_f (by decide) (br_f (by decide) (br_f (by decide) (br_f (by decide) (br_f (by decide) (br_f (by decide) (br_f (by decide) (br_f (by decide) (br_f (by decide) (br_f (by decide) (br_f (by decide) (br_t rfl (yk P hp))))))))))))))))⟩
theorem lh_s14 (hI : rt_IV nx wr tc rp sh rm rx ry hr dc bs re sd la dl lo ts fl rb aa ax ap) : ∃ r : Int32, (∀ P : Int32 → Prop, P r → wpX_stat P (ir, nw, cw, ss, ct, sa, nI wr, nI nx, nI tc, ms, sr, rv, mr, rx, rr, nI rm, nI sh, am, tp, pc, ps, ur, nI rp, rt, ds, un, tl, ro, lm, bs, re, sd, la, dl, lo, ep, ts, fl, ta) 14) ∧ (∀ P : Int32 → Prop, P r → wpY_stat P (ir, nI wr, nI tc, nw, cw, ss, ct, sa, nI nx, sr, rv, mr, ry, rr, nI rm, nI sh, am, pc, ps, ur, nI rp, rt, ds, un, tl, ro, lm, dc, ms, ms, hr, tp, bs, rb, re, sd, la, dl, lo, ep, mk, ts, ta, aa, ax, ap) 14) := by
  obtain ⟨K, A, hK, xk, xt, yk, yt⟩ := la_tm (wr := wr) (nx := nx) (tc := tc) (rm := rm) (sh := sh) (rp := rp) (ir := ir) (nw := nw) (cw := cw) (ss := ss) (ct := ct) (sa := sa) (ms := ms) (sr := sr) (rv := rv) (mr := mr) (rx := rx) (rr := rr) (am := am) (tp := tp) (pc := pc) (ps := ps) (ur := ur) (rt := rt) (ds := ds) (un := un) (tl := tl) (ro := ro) (lm := lm) (ry := ry) (hr := hr) (dc := dc) (bs := bs) (re := re) (sd := sd) (la := la) (dl := dl) (lo := lo) (ep := ep) (ts := ts) (fl := fl) (ta := ta) (rb := rb) (mk := mk) (aa := aa) (ax := ax) (ap := ap) hI
  have XC : ∀ P : Int32 → Prop, P A → wpX_currentTimerAt P (ir, nw, cw, ss, ct, sa, nI wr, nI nx, nI tc, ms, sr, rv, mr, rx, rr, nI rm, nI sh, am, tp, pc, ps, ur, nI rp, rt, ds, un, tl, ro, lm, bs, re, sd, la, dl, lo, ep, ts, fl, ta) := fun P hp => by
    unfold wpX_currentTimerAt
    exact xk _ (xt _ hp)
  exact ⟨A, fun P hp => br_f (by decide) (br_f (by decide) (br_f (by decide) (br_f (by decide) (br_f (by decide) (br_f (by decide) (br_f (by decide) (br_f (by decide) (br_f (by decide) (br_f (by decide) (br_f (by decide) (br_f (by decide) (br_f (by decide) (br_f (by decide) (br_f (by decide) (br_f (by decide) (br_t rfl (XC P hp))))))))))))))))), fun P hp => br_f (by decide) (br_f (by decide) (br_f (by decide) (br_f (by decide) (br_f (by decide) (br_f (by decide) (br_f (by decide) (br_f (by decide) (br_f (by decide) (br_f (by decide) (br_f (by decide) (br_f (by decide) (br_f (by decide) (br_f (by decide) (br_f (by decide) (br_f (by decide) (br_t rfl (yt P hp)))))))))))))))))⟩
theorem lh_s15 (hI : rt_IV nx wr tc rp sh rm rx ry hr dc bs re sd la dl lo ts fl rb aa ax ap) : ∃ r : Int32, (∀ P : Int32 → Prop, P r → wpX_stat P (ir, nw, cw, ss, ct, sa, nI wr, nI nx, nI tc, ms, sr, rv, mr, rx, rr, nI rm, nI sh, am, tp, pc, ps, ur, nI rp, rt, ds, un, tl, ro, lm, bs, re, sd, la, dl, lo, ep, ts, fl, ta) 15) ∧ (∀ P : Int32 → Prop, P r → wpY_stat P (ir, nI wr, nI tc, nw, cw, ss, ct, sa, nI nx, sr, rv, mr, ry, rr, nI rm, nI sh, am, pc, ps, ur, nI rp, rt, ds, un, tl, ro, lm, dc, ms, ms, hr, tp, bs, rb, re, sd, la, dl, lo, ep, mk, ts, ta, aa, ax, ap) 15) := ⟨nI wr, fun P hp => br_f (by decide) (br_f (by decide) (br_f (by decide) (br_f (by decide) (br_f (by decide) (br_f (by decide) (br_f (by decide) (br_f (by decide) (br_f (by decide) (br_f (by decide) (br_f (by decide) (br_f (by decide) (br_f (by decide) (br_f (by decide) (br_f (by decide) (br_f (by decide) (br_f (by decide) (br_t rfl (hp)))))))))))))))))), fun P hp => br_f (by decide) (br_f (by decide) (br_f (by decide) (br_f (by decide) (br_f (by decide) (br_f (by decide) (br_f (by decide) (br_f (by decide) (br_f (by decide) (br_f (by decide) (br_f (by decide) (br_f (by decide) (br_f (by decide) (br_f (by decide) (br_f (by decide) (br_f (by decide) (br_f (by decide) (br_t rfl (hp))))))))))))))))))⟩
theorem lh_s16 (hI : rt_IV nx wr tc rp sh rm rx ry hr dc bs re sd la dl lo ts fl rb aa ax ap) : ∃ r : Int32, (∀ P : Int32 → Prop, P r → wpX_stat P (ir, nw, cw, ss, ct, sa, nI wr, nI nx, nI tc, ms, sr, rv, mr, rx, rr, nI rm, nI sh, am, tp, pc, ps, ur, nI rp, rt, ds, un, tl, ro, lm, bs, re, sd, la, dl, lo, ep, ts, fl, ta) 16) ∧ (∀ P : Int32 → Prop, P r → wpY_stat P (ir, nI wr, nI tc, nw, cw, ss, ct, sa, nI nx, sr, rv, mr, ry, rr, nI rm, nI sh, am, pc, ps, ur, nI rp, rt, ds, un, tl, ro, lm, dc, ms, ms, hr, tp, bs, rb, re, sd, la, dl, lo, ep, mk, ts, ta, aa, ax, ap) 16) := ⟨nI nx, fun P hp => br_f (by decide) (br_f (by decide) (br_f (by decide) (br_f (by decide) (br_f (by decide) (br_f (by decide) (br_f (by decide) (br_f (by decide) (br_f (by decide) (br_f (by decide) (br_f (by decide) (br_f (by decide) (br_f (by decide) (br_f (by decide) (br_f (by decide) (br_f (by decide) (br_f (by decide) (br_f (by decide) (br_t rfl (hp))))))))))))))))))), fun P hp => br_f (by decide) (br_f (by decide) (br_f (by decide) (br_f (by decide) (br_f (by decide) (br_f (by decide) (br_f (by decide) (br_f (by decide) (br_f (by decide) (br_f (by decide) (br_f (by decide) (br_f (by decide) (br_f (by decide) (br_f (by decide) (br_f (by decide) (br_f (by decide) (br_f (by decide) (br_f (by decide) (br_t rfl (hp)))))))))))))))))))⟩
theorem lh_s17 (hI : rt_IV nx wr tc rp sh rm rx ry hr dc bs re sd la dl lo ts fl rb aa ax ap) : ∃ r : Int32, (∀ P : Int32 → Prop, P r → wpX_stat P (ir, nw, cw, ss, ct, sa, nI wr, nI nx, nI tc, ms, sr, rv, mr, rx, rr, nI rm, nI sh, am, tp, pc, ps, ur, nI rp, rt, ds, un, tl, ro, lm, bs, re, sd, la, dl, lo, ep, ts, fl, ta) 17) ∧ (∀ P : Int32 → Prop, P r → wpY_stat P (ir, nI wr, nI tc, nw, cw, ss, ct, sa, nI nx, sr, rv, mr, ry, rr, nI rm, nI sh, am, pc, ps, ur, nI rp, rt, ds, un, tl, ro, lm, dc, ms, ms, hr, tp, bs, rb, re, sd, la, dl, lo, ep, mk, ts, ta, aa, ax, ap) 17) := ⟨nI tc, fun P hp => br_f (by decide) (br_f (by decide) (br_f (by decide) (br_f (by decide) (br_f (by decide) (br_f (by decide) (br_f (by decide) (br_f (by decide) (br_f (by decide) (br_f (by decide) (br_f (by decide) (br_f (by decide) (br_f (by decide) (br_f (by decide) (br_f (by decide) (br_f (by decide) (br_f (by decide) (br_f (by decide) (br_f (by decide) (br_t rfl (hp)))))))))))))))))))), fun P hp => br_f (by decide) (br_f (by decide) (br_f (by decide) (br_f (by decide) (br_f (by decide) (br_f (by decide) (br_f (by decide) (br_f (by decide) (br_f (by decide) (br_f (by decide) (br_f (by decide) (br_f (by decide) (br_f (by decide) (br_f (by decide) (br_f (by decide) (br_f (by decide) (br_f (by decide) (br_f (by decide) (br_f (by decide) (br_t rfl (hp))))))))))))))))))))⟩
theorem lh_s18 (hI : rt_IV nx wr tc rp sh rm rx ry hr dc bs re sd la dl lo ts fl rb aa ax ap) : ∃ r : Int32, (∀ P : Int32 → Prop, P r → wpX_stat P (ir, nw, cw, ss, ct, sa, nI wr, nI nx, nI tc, ms, sr, rv, mr, rx, rr, nI rm, nI sh, am, tp, pc, ps, ur, nI rp, rt, ds, un, tl, ro, lm, bs, re, sd, la, dl, lo, ep, ts, fl, ta) 18) ∧ (∀ P : Int32 → Prop, P r → wpY_stat P (ir, nI wr, nI tc, nw, cw, ss, ct, sa, nI nx, sr, rv, mr, ry, rr, nI rm, nI sh, am, pc, ps, ur, nI rp, rt, ds, un, tl, ro, lm, dc, ms, ms, hr, tp, bs, rb, re, sd, la, dl, lo, ep, mk, ts, ta, aa, ax, ap) 18) := by
  have hx : nx ≤ 64 := Nat.le_trans hI.1.1 hI.1.2.1
  exact ⟨_, fun P hp => br_f (by decide) (br_f (by decide) (br_f (by decide) (br_f (by decide) (br_f (by decide) (br_f (by decide) (br_f (by decide) (br_f (by decide) (br_f (by decide) (br_f (by decide) (br_f (by decide) (br_f (by decide) (br_f (by decide) (br_f (by decide) (br_f (by decide) (br_f (by decide) (br_f (by decide) (br_f (by decide) (br_f (by decide) (br_f (by decide) (br_t rfl (xa_infl hx hp))))))))))))))))))))), fun P hp => br_f (by decide) (br_f (by decide) (br_f (by decide) (br_f (by decide) (br_f (by decide) (br_f (by decide) (br_f (by decide) (br_f (by decide) (br_f (by decide) (br_f (by decide) (br_f (by decide) (br_f (by decide) (br_f (by decide) (br_f (by decide) (br_f (by decide) (br_f (by decide) (br_f (by decide) (br_f (by decide) (br_f (by decide) (br_f (by decide) (br_t rfl (ya_infl hx hI.2.1 hp)))))))))))))))))))))⟩
theorem lh_s19 (hI : rt_IV nx wr tc rp sh rm rx ry hr dc bs re sd la dl lo ts fl rb aa ax ap) : ∃ r : Int32, (∀ P : Int32 → Prop, P r → wpX_stat P (ir, nw, cw, ss, ct, sa, nI wr, nI nx, nI tc, ms, sr, rv, mr, rx, rr, nI rm, nI sh, am, tp, pc, ps, ur, nI rp, rt, ds, un, tl, ro, lm, bs, re, sd, la, dl, lo, ep, ts, fl, ta) 19) ∧ (∀ P : Int32 → Prop, P r → wpY_stat P (ir, nI wr, nI tc, nw, cw, ss, ct, sa, nI nx, sr, rv, mr, ry, rr, nI rm, nI sh, am, pc, ps, ur, nI rp, rt, ds, un, tl, ro, lm, dc, ms, ms, hr, tp, bs, rb, re, sd, la, dl, lo, ep, mk, ts, ta, aa, ax, ap) 19) := ⟨rt, fun P hp => br_f (by decide) (br_f (by decide) (br_f (by decide) (br_f (by decide) (br_f (by decide) (br_f (by decide) (br_f (by decide) (br_f (by decide) (br_f (by decide) (br_f (by decide) (br_f (by decide) (br_f (by decide) (br_f (by decide) (br_f (by decide) (br_f (by decide) (br_f (by decide) (br_f (by decide) (br_f (by decide) (br_f (by decide) (br_f (by decide) (br_f (by decide) (br_t rfl (hp)))))))))))))))))))))), fun P hp => br_f (by decide) (br_f (by decide) (br_f (by decide) (br_f (by decide) (br_f (by decide) (br_f (by decide) (br_f (by decide) (br_f (by decide) (br_f (by decide) (br_f (by decide) (br_f (by decide) (br_f (by decide) (br_f (by decide) (br_f (by decide) (br_f (by decide) (br_f (by decide) (br_f (by decide) (br_f (by decide) (br_f (by decide) (br_f (by decide) (br_f (by decide) (br_t rfl (hp))))))))))))))))))))))⟩
theorem lh_s20 (hI : rt_IV nx wr tc rp sh rm rx ry hr dc bs re sd la dl lo ts fl rb aa ax ap) : ∃ r : Int32, (∀ P : Int32 → Prop, P r → wpX_stat P (ir, nw, cw, ss, ct, sa, nI wr, nI nx, nI tc, ms, sr, rv, mr, rx, rr, nI rm, nI sh, am, tp, pc, ps, ur, nI rp, rt, ds, un, tl, ro, lm, bs, re, sd, la, dl, lo, ep, ts, fl, ta) 20) ∧ (∀ P : Int32 → Prop, P r → wpY_stat P (ir, nI wr, nI tc, nw, cw, ss, ct, sa, nI nx, sr, rv, mr, ry, rr, nI rm, nI sh, am, pc, ps, ur, nI rp, rt, ds, un, tl, ro, lm, dc, ms, ms, hr, tp, bs, rb, re, sd, la, dl, lo, ep, mk, ts, ta, aa, ax, ap) 20) := ⟨ds, fun P hp => br_f (by decide) (br_f (by decide) (br_f (by decide) (br_f (by decide) (br_f (by decide) (br_f (by decide) (br_f (by decide) (br_f (by decide) (br_f (by decide) (br_f (by decide) (br_f (by decide) (br_f (by decide) (br_f (by decide) (br_f (by decide) (br_f (by decide) (br_f (by decide) (br_f (by decide) (br_f (by decide) (br_f (by decide) (br_f (by decide) (br_f (by decide) (br_f (by decide) (br_t rfl (hp))))))))))))))))))))))), fun P hp => br_f (by decide) (br_f (by decide) (br_f (by decide) (br_f (by decide) (br_f (by decide) (br_f (by decide) (br_f (by decide) (br_f (by decide) (br_f (by decide) (br_f (by decide) (br_f (by decide) (br_f (by decide) (br_f (by decide) (br_f (by decide) (br_f (by decide) (br_f (by decide) (br_f (by decide) (br_f (by decide) (br_f (by decide) (br_f (by decide) (br_f (by decide) (br_f (by decide) (br_t rfl (hp)))))))))))))))))))))))⟩
theorem lh_s21 (hI : rt_IV nx wr tc rp sh rm rx ry hr dc bs re sd la dl lo ts fl rb aa ax ap) : ∃ r : Int32, (∀ P : Int32 → Prop, P r → wpX_stat P (ir, nw, cw, ss, ct, sa, nI wr, nI nx, nI tc, ms, sr, rv, mr, rx, rr, nI rm, nI sh, am, tp, pc, ps, ur, nI rp, rt, ds, un, tl, ro, lm, bs, re, sd, la, dl, lo, ep, ts, fl, ta) 21) ∧ (∀ P : Int32 → Prop, P r → wpY_stat P (ir, nI wr, nI tc, nw, cw, ss, ct, sa, nI nx, sr, rv, mr, ry, rr, nI rm, nI sh, am, pc, ps, ur, nI rp, rt, ds, un, tl, ro, lm, dc, ms, ms, hr, tp, bs, rb, re, sd, la, dl, lo, ep, mk, ts, ta, aa, ax, ap) 21) := ⟨un, fun P hp => br_f (by decide) (br_f (by decide) (br_f (by decide) (br_f (by decide) (br_f (by decide) (br_f (by decide) (br_f (by decide) (br_f (by decide) (br_f (by decide) (br_f (by decide) (br_f (by decide) (br_f (by decide) (br_f (by decide) (br_f (by decide) (br_f (by decide) (br_f (by decide) (br_f (by decide) (br_f (by decide) (br_f (by decide) (br_f (by decide) (br_f (by decide) (br_f (by decide) (br_f (by decide) (br_t rfl (hp)))))))))))))))))))))))), fun P hp => br_f (by decide) (br_f (by decide) (br_f (by decide) (br_f (by decide) (br_f (by decide) (br_f (by decide) (br_f (by decide) (br_f (by decide) (br_f (by decide) (br_f (by decide) (br_f (by decide) (br_f (by decide) (br_f (by decide) (br_f (by decide) (br_f (by decide) (br_f (by decide) (br_f (by decide) (br_f (by decide) (br_f (by decide) (br_f (by decide) (br_f (by decide) (br_f (by decide) (br_f (by decide) (br_t rfl (hp))))))))))))))))))))))))⟩
theorem lh_s22 (hI : rt_IV nx wr tc rp sh rm rx ry hr dc bs re sd la dl lo ts fl rb aa ax ap) : ∃ r : Int32, (∀ P : Int32 → Prop, P r → wpX_stat P (ir, nw, cw, ss, ct, sa, nI wr, nI nx, nI tc, ms, sr, rv, mr, rx, rr, nI rm, nI sh, am, tp, pc, ps, ur, nI rp, rt, ds, un, tl, ro, lm, bs, re, sd, la, dl, lo, ep, ts, fl, ta) 22) ∧ (∀ P : Int32 → Prop, P r → wpY_stat P (ir, nI wr, nI tc, nw, cw, ss, ct, sa, nI nx, sr, rv, mr, ry, rr, nI rm, nI sh, am, pc, ps, ur, nI rp, rt, ds, un, tl, ro, lm, dc, ms, ms, hr, tp, bs, rb, re, sd, la, dl, lo, ep, mk, ts, ta, aa, ax, ap) 22) := ⟨ur, fun P hp => br_f (by decide) (br_f (by decide) (br_f (by decide) (br_f (by decide) (br_f (by decide) (br_f (by decide) (br_f (by decide) (br_f (by decide) (br_f (by decide) (br_f (by decide) (br_f (by decide) (br_f (by decide) (br_f (by decide) (br_f (by decide) (br_f (by decide) (br_f (by decide) (br_f (by decide) (br_f (by decide) (br_f (by decide) (br_f (by decide) (br_f (by decide) (br_f (by decide) (br_f (by decide) (br_f (by decide) (br_t rfl (hp))))))))))))))))))))))))), fun P hp => br_f (by decide) (br_f (by decide) (br_f (by decide) (br_f (by decide) (br_f (by decide) (br_f (by decide) (br_f (by decide) (br_f (by decide) (br_f (by decide) (br_f (by decide) (br_f (by decide) (br_f (by decide) (br_f (by decide) (br_f (by decide) (br_f (by decide) (br_f (by decide) (br_f (by decide) (br_f (by decide) (br_f (by decide) (br_f (by decide) (br_f (by decide) (br_f (by decide) (br_f (by decide) (br_f (by decide) (br_t rfl (hp)))))))))))))))))))))))))⟩
theorem lh_s23 (hI : rt_IV nx wr tc rp sh rm rx ry hr dc bs re sd la dl lo ts fl rb aa ax ap) : ∃ r : Int32, (∀ P : Int32 → Prop, P r → wpX_stat P (ir, nw, cw, ss, ct, sa, nI wr, nI nx, nI tc, ms, sr, rv, mr, rx, rr, nI rm, nI sh, am, tp, pc, ps, ur, nI rp, rt, ds, un, tl, ro, lm, bs, re, sd, la, dl, lo, ep, ts, fl, ta) 23) ∧ (∀ P : Int32 → Prop, P r → wpY_stat P (ir, nI wr, nI tc, nw, cw, ss, ct, sa, nI nx, sr, rv, mr, ry, rr, nI rm, nI sh, am, pc, ps, ur, nI rp, rt, ds, un, tl, ro, lm, dc, ms, ms, hr, tp, bs, rb, re, sd, la, dl, lo, ep, mk, ts, ta, aa, ax, ap) 23) := ⟨pc, fun P hp => br_f (by decide) (br_f (by decide) (br_f (by decide) (br_f (by decide) (br_f (by decide) (br_f (by decide) (br_f (by decide) (br_f (by decide) (br_f (by decide) (br_f (by decide) (br_f (by decide) (br_f (by decide) (br_f (by decide) (br_f (by decide) (br_f (by decide) (br_f (by decide) (br_f (by decide) (br_f (by decide) (br_f (by decide) (br_f (by decide) (br_f (by decide) (br_f (by decide) (br_f (by decide) (br_f (by decide) (br_f (by decide) (br_t rfl (hp)))))))))))))))))))))))))), fun P hp => br_f (by decide) (br_f (by decide) (br_f (by decide) (br_f (by decide) (br_f (by decide) (br_f (by decide) (br_f (by decide) (br_f (by decide) (br_f (by decide) (br_f (by decide) (br_f (by decide) (br_f (by decide) (br_f (by decide) (br_f (by decide) (br_f (by decide) (br_f (by decide) (br_f (by decide) (br_f (by decide) (br_f (by decide) (br_f (by decide) (br_f (by decide) (br_f (by decide) (br_f (by decide) (br_f (by decide) (br_f (by decide) (br_t rfl (hp))))))))))))))))))))))))))⟩
theorem lh_s24 (hI : rt_IV nx wr tc rp sh rm rx ry hr dc bs re sd la dl lo ts fl rb aa ax ap) : ∃ r : Int32, (∀ P : Int32 → Prop, P r → wpX_stat P (ir, nw, cw, ss, ct, sa, nI wr, nI nx, nI tc, ms, sr, rv, mr, rx, rr, nI rm, nI sh, am, tp, pc, ps, ur, nI rp, rt, ds, un, tl, ro, lm, bs, re, sd, la, dl, lo, ep, ts, fl, ta) 24) ∧ (∀ P : Int32 → Prop, P r → wpY_stat P (ir, nI wr, nI tc, nw, cw, ss, ct, sa, nI nx, sr, rv, mr, ry, rr, nI rm, nI sh, am, pc, ps, ur, nI rp, rt, ds, un, tl, ro, lm, dc, ms, ms, hr, tp, bs, rb, re, sd, la, dl, lo, ep, mk, ts, ta, aa, ax, ap) 24) := ⟨ps, fun P hp => br_f (by decide) (br_f (by decide) (br_f (by decide) (br_f (by decide) (br_f (by decide) (br_f (by decide) (br_f (by decide) (br_f (by decide) (br_f (by decide) (br_f (by decide) (br_f (by decide) (br_f (by decide) (br_f (by decide) (br_f (by decide) (br_f (by decide) (br_f (by decide) (br_f (by decide) (br_f (by decide) (br_f (by decide) (br_f (by decide) (br_f (by decide) (br_f (by decide) (br_f (by decide) (br_f (by decide) (br_f (by decide) (br_f (by decide) (br_t rfl (hp))))))))))))))))))))))))))), fun P hp => br_f (by decide) (br_f (by decide) (br_f (by decide) (br_f (by decide) (br_f (by decide) (br_f (by decide) (br_f (by decide) (br_f (by decide) (br_f (by decide) (br_f (by decide) (br_f (by decide) (br_f (by decide) (br_f (by decide) (br_f (by decide) (br_f (by decide) (br_f (by decide) (br_f (by decide) (br_f (by decide) (br_f (by decide) (br_f (by decide) (br_f (by decide) (br_f (by decide) (br_f (by decide) (br_f (by decide) (br_f (by decide) (br_f (by decide) (br_t rfl (hp)))))))))))))))))))))))))))⟩
theorem lh_s25 (hI : rt_IV nx wr tc rp sh rm rx ry hr dc bs re sd la dl lo ts fl rb aa ax ap) : ∃ r : Int32, (∀ P : Int32 → Prop, P r → wpX_stat P (ir, nw, cw, ss, ct, sa, nI wr, nI nx, nI tc, ms, sr, rv, mr, rx, rr, nI rm, nI sh, am, tp, pc, ps, ur, nI rp, rt, ds, un, tl, ro, lm, bs, re, sd, la, dl, lo, ep, ts, fl, ta) 25) ∧ (∀ P : Int32 → Prop, P r → wpY_stat P (ir, nI wr, nI tc, nw, cw, ss, ct, sa, nI nx, sr, rv, mr, ry, rr, nI rm, nI sh, am, pc, ps, ur, nI rp, rt, ds, un, tl, ro, lm, dc, ms, ms, hr, tp, bs, rb, re, sd, la, dl, lo, ep, mk, ts, ta, aa, ax, ap) 25) := ⟨nI rp, fun P hp => br_f (by decide) (br_f (by decide) (br_f (by decide) (br_f (by decide) (br_f (by decide) (br_f (by decide) (br_f (by decide) (br_f (by decide) (br_f (by decide) (br_f (by decide) (br_f (by decide) (br_f (by decide) (br_f (by decide) (br_f (by decide) (br_f (by decide) (br_f (by decide) (br_f (by decide) (br_f (by decide) (br_f (by decide) (br_f (by decide) (br_f (by decide) (br_f (by decide) (br_f (by decide) (br_f (by decide) (br_f (by decide) (br_f (by decide) (br_f (by decide) (br_t rfl (hp)))))))))))))))))))))))))))), fun P hp => br_f (by decide) (br_f (by decide) (br_f (by decide) (br_f (by decide) (br_f (by decide) (br_f (by decide) (br_f (by decide) (br_f (by decide) (br_f (by decide) (br_f (by decide) (br_f (by decide) (br_f (by decide) (br_f (by decide) (br_f (by decide) (br_f (by decide) (br_f (by decide) (br_f (by decide) (br_f (by decide) (br_f (by decide) (br_f (by decide) (br_f (by decide) (br_f (by decide) (br_f (by decide) (br_f (by decide) (br_f (by decide) (br_f (by decide) (br_f (by decide) (br_t rfl (hp))))))))))))))))))))))))))))⟩
theorem lh_s26 (hI : rt_IV nx wr tc rp sh rm rx ry hr dc bs re sd la dl lo ts fl rb aa ax ap) : ∃ r : Int32, (∀ P : Int32 → Prop, P r → wpX_stat P (ir, nw, cw, ss, ct, sa, nI wr, nI nx, nI tc, ms, sr, rv, mr, rx, rr, nI rm, nI sh, am, tp, pc, ps, ur, nI rp, rt, ds, un, tl, ro, lm, bs, re, sd, la, dl, lo, ep, ts, fl, ta) 26) ∧ (∀ P : Int32 → Prop, P r → wpY_stat P (ir, nI wr, nI tc, nw, cw, ss, ct, sa, nI nx, sr, rv, mr, ry, rr, nI rm, nI sh, am, pc, ps, ur, nI rp, rt, ds, un, tl, ro, lm, dc, ms, ms, hr, tp, bs, rb, re, sd, la, dl, lo, ep, mk, ts, ta, aa, ax, ap) 26) := ⟨tl, fun P hp => br_f (by decide) (br_f (by decide) (br_f (by decide) (br_f (by decide) (br_f (by decide) (br_f (by decide) (br_f (by decide) (br_f (by decide) (br_f (by decide) (br_f (by decide) (br_f (by decide) (br_f (by decide) (br_f (by decide) (br_f (by decide) (br_f (by decide) (br_f (by decide) (br_f (by decide) (br_f (by decide) (br_f (by decide) (br_f (by decide) (br_f (by decide) (br_f (by decide) (br_f (by decide) (br_f (by decide) (br_f (by decide) (br_f (by decide) (br_f (by decide) (br_f (by decide) (br_t rfl (hp))))))))))))))))))))))))))))), fun P hp => br_f (by decide) (br_f (by decide) (br_f (by decide) (br_f (by decide) (br_f (by decide) (br_f (by decide) (br_f (by decide) (br_f (by decide) (br_f (by decide) (br_f (by decide) (br_f (by decide) (br_f (by decide) (br_f (by decide) (br_f (by decide) (br_f (by decide) (br_f (by decide) (br_f (by decide) (br_f (by decide) (br_f (by decide) (br_f (by decide) (br_f (by decide) (br_f (by decide) (br_f (by decide) (br_f (by decide) (br_f (by decide) (br_f (by decide) (br_f (by decide) (br_f (by decide) (br_t rfl (hp)))))))))))))))))))))))))))))⟩
theorem lh_s27 (hI : rt_IV nx wr tc rp sh rm rx ry hr dc bs re sd la dl lo ts fl rb aa ax ap) : ∃ r : Int32, (∀ P : Int32 → Prop, P r → wpX_stat P (ir, nw, cw, ss, ct, sa, nI wr, nI nx, nI tc, ms, sr, rv, mr, rx, rr, nI rm, nI sh, am, tp, pc, ps, ur, nI rp, rt, ds, un, tl, ro, lm, bs, re, sd, la, dl, lo, ep, ts, fl, ta) 27) ∧ (∀ P : Int32 → Prop, P r → wpY_stat P (ir, nI wr, nI tc, nw, cw, ss, ct, sa, nI nx, sr, rv, mr, ry, rr, nI rm, nI sh, am, pc, ps, ur, nI rp, rt, ds, un, tl, ro, lm, dc, ms, ms, hr, tp, bs, rb, re, sd, la, dl, lo, ep, mk, ts, ta, aa, ax, ap) 27) := by
  by_cases z : tp = 0
  · exact ⟨0, fun P hp => br_f (by decide) (br_f (by decide) (br_f (by decide) (br_f (by decide) (br_f (by decide) (br_f (by decide) (br_f (by decide) (br_f (by decide) (br_f (by decide) (br_f (by decide) (br_f (by decide) (br_f (by decide) (br_f (by decide) (br_f (by decide) (br_f (by decide) (br_f (by decide) (br_f (by decide) (br_f (by decide) (br_f (by decide) (br_f (by decide) (br_f (by decide) (br_f (by decide) (br_f (by decide) (br_f (by decide) (br_f (by decide) (br_f (by decide) (br_f (by decide) (br_f (by decide) (br_f (by decide) (br_t rfl (br_t z hp)))))))))))))))))))))))))))))), fun P hp => br_f (by decide) (br_f (by decide) (br_f (by decide) (br_f (by decide) (br_f (by decide) (br_f (by decide) (br_f (by decide) (br_f (by decide) (br_f (by decide) (br_f (by decide) (br_f (by decide) (br_f (by decide) (br_f (by decide) (br_f (by decide) (br_f (by decide) (br_f (by decide) (br_f (by decide) (br_f (by decide) (br_f (by decide) (br_f (by decide) (br_f (by decide) (br_f (by decide) (br_f (by decide) (br_f (by decide) (br_f (by decide) (br_f (by decide) (br_f (by decide) (br_f (by decide) (br_f (by decide) (br_t rfl (br_t z hp))))))))))))))))))))))))))))))⟩
  · exact ⟨1, fun P hp => br_f (by decide) (br_f (by decide) (br_f (by decide) (br_f (by decide) (br_f (by decide) (br_f (by decide) (br_f (by decide) (br_f (by decide) (br_f (by decide) (br_f (by decide) (br_f (by decide) (br_f (by decide) (br_f (by decide) (br_f (by decide) (br_f (by decide) (br_f (by decide) (br_f (by decide) (br_f (by decide) (br_f (by decide) (br_f (by decide) (br_f (by decide) (br_f (by decide) (br_f (by decide) (br_f (by decide) (br_f (by decide) (br_f (by decide) (br_f (by decide) (br_f (by decide) (br_f (by decide) (br_t rfl (br_f z (hp))))))))))))))))))))))))))))))), fun P hp => br_f (by decide) (br_f (by decide) (br_f (by decide) (br_f (by decide) (br_f (by decide) (br_f (by decide) (br_f (by decide) (br_f (by decide) (br_f (by decide) (br_f (by decide) (br_f (by decide) (br_f (by decide) (br_f (by decide) (br_f (by decide) (br_f (by decide) (br_f (by decide) (br_f (by decide) (br_f (by decide) (br_f (by decide) (br_f (by decide) (br_f (by decide) (br_f (by decide) (br_f (by decide) (br_f (by decide) (br_f (by decide) (br_f (by decide) (br_f (by decide) (br_f (by decide) (br_f (by decide) (br_t rfl (br_f z (hp)))))))))))))))))))))))))))))))⟩
theorem lh_s28 (hI : rt_IV nx wr tc rp sh rm rx ry hr dc bs re sd la dl lo ts fl rb aa ax ap) : ∃ r : Int32, (∀ P : Int32 → Prop, P r → wpX_stat P (ir, nw, cw, ss, ct, sa, nI wr, nI nx, nI tc, ms, sr, rv, mr, rx, rr, nI rm, nI sh, am, tp, pc, ps, ur, nI rp, rt, ds, un, tl, ro, lm, bs, re, sd, la, dl, lo, ep, ts, fl, ta) 28) ∧ (∀ P : Int32 → Prop, P r → wpY_stat P (ir, nI wr, nI tc, nw, cw, ss, ct, sa, nI nx, sr, rv, mr, ry, rr, nI rm, nI sh, am, pc, ps, ur, nI rp, rt, ds, un, tl, ro, lm, dc, ms, ms, hr, tp, bs, rb, re, sd, la, dl, lo, ep, mk, ts, ta, aa, ax, ap) 28) := ⟨ro, fun P hp => br_f (by decide) (br_f (by decide) (br_f (by decide) (br_f (by decide) (br_f (by decide) (br_f (by decide) (br_f (by decide) (br_f (by decide) (br_f (by decide) (br_f (by decide) (br_f (by decide) (br_f (by decide) (br_f (by decide) (br_f (by decide) (br_f (by decide) (br_f (by decide) (br_f (by decide) (br_f (by decide) (br_f (by decide) (br_f (by decide) (br_f (by decide) (br_f (by decide) (br_f (by decide) (br_f (by decide) (br_f (by decide) (br_f (by decide) (br_f (by decide) (br_f (by decide) (br_f (by decide) (br_f (by decide) (br_t rfl (hp))))))))))))))))))))))))))))))), fun P hp => br_f (by decide) (br_f (by decide) (br_f (by decide) (br_f (by decide) (br_f (by decide) (br_f (by decide) (br_f (by decide) (br_f (by decide) (br_f (by decide) (br_f (by decide) (br_f (by decide) (br_f (by decide) (br_f (by decide) (br_f (by decide) (br_f (by decide) (br_f (by decide) (br_f (by decide) (br_f (by decide) (br_f (by decide) (br_f (by decide) (br_f (by decide) (br_f (by decide) (br_f (by decide) (br_f (by decide) (br_f (by decide) (br_f (by decide) (br_f (by decide) (br_f (by decide) (br_f (by decide) (br_f (by decide) (br_t rfl (hp)))))))))))))))))))))))))))))))⟩
theorem lh_s29 (hI : rt_IV nx wr tc rp sh rm rx ry hr dc bs re sd la dl lo ts fl rb aa ax ap) : ∃ r : Int32, (∀ P : Int32 → Prop, P r → wpX_stat P (ir, nw, cw, ss, ct, sa, nI wr, nI nx, nI tc, ms, sr, rv, mr, rx, rr, nI rm, nI sh, am, tp, pc, ps, ur, nI rp, rt, ds, un, tl, ro, lm, bs, re, sd, la, dl, lo, ep, ts, fl, ta) 29) ∧ (∀ P : Int32 → Prop, P r → wpY_stat P (ir, nI wr, nI tc, nw, cw, ss, ct, sa, nI nx, sr, rv, mr, ry, rr, nI rm, nI sh, am, pc, ps, ur, nI rp, rt, ds, un, tl, ro, lm, dc, ms, ms, hr, tp, bs, rb, re, sd, la, dl, lo, ep, mk, ts, ta, aa, ax, ap) 29) := ⟨lm, fun P hp => br_f (by decide) (br_f (by decide) (br_f (by decide) (br_f (by decide) (br_f (by decide) (br_f (by decide) (br_f (by decide) (br_f (by decide) (br_f (by decide) (br_f (by decide) (br_f (by decide) (br_f (by decide) (br_f (by decide) (br_f (by decide) (br_f (by decide) (br_f (by decide) (br_f (by decide) (br_f (by decide) (br_f (by decide) (br_f (by decide) (br_f (by decide) (br_f (by decide) (br_f (by decide) (br_f (by decide) (br_f (by decide) (br_f (by decide) (br_f (by decide) (br_f (by decide) (br_f (by decide) (br_f (by decide) (br_f (by decide) (br_t rfl (hp)))))))))))))))))))))))))))))))), fun P hp => br_f (by decide) (br_f (by decide) (br_f (by decide) (br_f (by decide) (br_f (by decide) (br_f (by decide) (br_f (by decide) (br_f (by decide) (br_f (by decide) (br_f (by decide) (br_f (by decide) (br_f (by decide) (br_f (by decide) (br_f (by decide) (br_f (by decide) (br_f (by decide) (br_f (by decide) (br_f (by decide) (br_f (by decide) (br_f (by decide) (br_f (by decide) (br_f (by decide) (br_f (by decide) (br_f (by decide) (br_f (by decide) (br_f (by decide) (br_f (by decide) (br_f (by decide) (br_f (by decide) (br_f (by decide) (br_f (by decide) (br_t rfl (hp))))))))))))))))))))))))))))))))⟩
theorem lh_s30 (hI : rt_IV nx wr tc rp sh rm rx ry hr dc bs re sd la dl lo ts fl rb aa ax ap) : ∃ r : Int32, (∀ P : Int32 → Prop, P r → wpX_stat P (ir, nw, cw, ss, ct, sa, nI wr, nI nx, nI tc, ms, sr, rv, mr, rx, rr, nI rm, nI sh, am, tp, pc, ps, ur, nI rp, rt, ds, un, tl, ro, lm, bs, re, sd, la, dl, lo, ep, ts, fl, ta) 30) ∧ (∀ P : Int32 → Prop, P r → wpY_stat P (ir, nI wr, nI tc, nw, cw, ss, ct, sa, nI nx, sr, rv, mr, ry, rr, nI rm, nI sh, am, pc, ps, ur, nI rp, rt, ds, un, tl, ro, lm, dc, ms, ms, hr, tp, bs, rb, re, sd, la, dl, lo, ep, mk, ts, ta, aa, ax, ap) 30) := by
  obtain ⟨r, hX, hY⟩ := la_ca (wr := wr) (nx := nx) (tc := tc) (rm := rm) (sh := sh) (rp := rp) (ir := ir) (nw := nw) (cw := cw) (ss := ss) (ct := ct) (sa := sa) (ms := ms) (sr := sr) (rv := rv) (mr := mr) (rx := rx) (rr := rr) (am := am) (tp := tp) (pc := pc) (ps := ps) (ur := ur) (rt := rt) (ds := ds) (un := un) (tl := tl) (ro := ro) (lm := lm) (ry := ry) (hr := hr) (dc := dc) (bs := bs) (re := re) (sd := sd) (la := la) (dl := dl) (lo := lo) (ep := ep) (ts := ts) (fl := fl) (ta := ta) (rb := rb) (mk := mk) (aa := aa) (ax := ax) (ap := ap)
  exact ⟨r, fun P hp => br_f (by decide) (br_f (by decide) (br_f (by decide) (br_f (by decide) (br_f (by decide) (br_f (by decide) (br_f (by decide) (br_f (by decide) (br_f (by decide) (br_f (by decide) (br_f (by decide) (br_f (by decide) (br_f (by decide) (br_f (by decide) (br_f (by decide) (br_f (by decide) (br_f (by decide) (br_f (by decide) (br_f (by decide) (br_f (by decide) (br_f (by decide) (br_f (by decide) (br_f (by decide) (br_f (by decide) (br_f (by decide) (br_f (by decide) (br_f (by decide) (br_f (by decide) (br_f (by decide) (br_f (by decide) (br_f (by decide) (br_f (by decide) (br_t rfl (hX P hp))))))))))))))))))))))))))))))))), fun P hp => br_f (by decide) (br_f (by decide) (br_f (by decide) (br_f (by decide) (br_f (by decide) (br_f (by decide) (br_f (by decide) (br_f (by decide) (br_f (by decide) (br_f (by decide) (br_f (by decide) (br_f (by decide) (br_f (by decide) (br_f (by decide) (br_f (by decide) (br_f (by decide) (br_f (by decide) (br_f (by decide) (br_f (by decide) (br_f (by decide) (br_f (by decide) (br_f (by decide) (br_f (by decide) (br_f (by decide) (br_f (by decide) (br_f (by decide) (br_f (by decide) (br_f (by decide) (br_f (by decide) (br_f (by decide) (br_f (by decide) (br_f (by decide) (br_t rfl (hY P hp)))))))))))))))))))))))))))))))))⟩
theorem lh_s31 (hI : rt_IV nx wr tc rp sh rm rx ry hr dc bs re sd la dl lo ts fl rb aa ax ap) : ∃ r : Int32, (∀ P : Int32 → Prop, P r → wpX_stat P (ir, nw, cw, ss, ct, sa, nI wr, nI nx, nI tc, ms, sr, rv, mr, rx, rr, nI rm, nI sh, am, tp, pc, ps, ur, nI rp, rt, ds, un, tl, ro, lm, bs, re, sd, la, dl, lo, ep, ts, fl, ta) 31) ∧ (∀ P : Int32 → Prop, P r → wpY_stat P (ir, nI wr, nI tc, nw, cw, ss, ct, sa, nI nx, sr, rv, mr, ry, rr, nI rm, nI sh, am, pc, ps, ur, nI rp, rt, ds, un, tl, ro, lm, dc, ms, ms, hr, tp, bs, rb, re, sd, la, dl, lo, ep, mk, ts, ta, aa, ax, ap) 31) := by
  have hC : dc = nI (rt_cn (rt_nz dl) 64) := hI.2.2.2.2.2.2.2.2.2.2
  have XC : ∀ P : Int32 → Prop, P dc → wpX_deliveredCount P (ir, nw, cw, ss, ct, sa, nI wr, nI nx, nI tc, ms, sr, rv, mr, rx, rr, nI rm, nI sh, am, tp, pc, ps, ur, nI rp, rt, ds, un, tl, ro, lm, bs, re, sd, la, dl, lo, ep, ts, fl, ta) := fun P hp => by
    unfold wpX_deliveredCount
    rw [hC] at hp
    exact xa_db (b := 64) (by omega) hp
  exact ⟨dc, fun P hp => br_f (by decide) (br_f (by decide) (br_f (by decide) (br_f (by decide) (br_f (by decide) (br_f (by decide) (br_f (by decide) (br_f (by decide) (br_f (by decide) (br_f (by decide) (br_f (by decide) (br_f (by decide) (br_f (by decide) (br_f (by decide) (br_f (by decide) (br_f (by decide) (br_f (by decide) (br_f (by decide) (br_f (by decide) (br_f (by decide) (br_f (by decide) (br_f (by decide) (br_f (by decide) (br_f (by decide) (br_f (by decide) (br_f (by decide) (br_f (by decide) (br_f (by decide) (br_f (by decide) (br_f (by decide) (br_f (by decide) (br_f (by decide) (br_f (by decide) (br_t rfl (XC P hp)))))))))))))))))))))))))))))))))), fun P hp => br_f (by decide) (br_f (by decide) (br_f (by decide) (br_f (by decide) (br_f (by decide) (br_f (by decide) (br_f (by decide) (br_f (by decide) (br_f (by decide) (br_f (by decide) (br_f (by decide) (br_f (by decide) (br_f (by decide) (br_f (by decide) (br_f (by decide) (br_f (by decide) (br_f (by decide) (br_f (by decide) (br_f (by decide) (br_f (by decide) (br_f (by decide) (br_f (by decide) (br_f (by decide) (br_f (by decide) (br_f (by decide) (br_f (by decide) (br_f (by decide) (br_f (by decide) (br_f (by decide) (br_f (by decide) (br_f (by decide) (br_f (by decide) (br_f (by decide) (br_t rfl (hp))))))))))))))))))))))))))))))))))⟩
theorem lh_s32 (hI : rt_IV nx wr tc rp sh rm rx ry hr dc bs re sd la dl lo ts fl rb aa ax ap) : ∃ r : Int32, (∀ P : Int32 → Prop, P r → wpX_stat P (ir, nw, cw, ss, ct, sa, nI wr, nI nx, nI tc, ms, sr, rv, mr, rx, rr, nI rm, nI sh, am, tp, pc, ps, ur, nI rp, rt, ds, un, tl, ro, lm, bs, re, sd, la, dl, lo, ep, ts, fl, ta) 32) ∧ (∀ P : Int32 → Prop, P r → wpY_stat P (ir, nI wr, nI tc, nw, cw, ss, ct, sa, nI nx, sr, rv, mr, ry, rr, nI rm, nI sh, am, pc, ps, ur, nI rp, rt, ds, un, tl, ro, lm, dc, ms, ms, hr, tp, bs, rb, re, sd, la, dl, lo, ep, mk, ts, ta, aa, ax, ap) 32) := by
  obtain ⟨⟨n1, n2, n3, n4, n5, n6⟩, hS, hZl, hZd, hZr, hL, hT, hK, hF, hB, hC⟩ := hI
  obtain ⟨dd, hdd⟩ : ∃ d, 64 = wr + d := ⟨64 - wr, by omega⟩
  have e : rt_cn (rt_nz dl) 64 = rt_cn (rt_nz dl) wr := by
    rw [hdd]; exact rt_cn_hi _ (fun s hs => rt_nz_f (hZd s (by omega))) dd
  have l := rt_cn_le (rt_nz dl) wr
  have XC : ∀ P : Int32 → Prop, ((nI (rt_cn (rt_nz dl) wr) = nI wr → P 1) ∧ (¬ nI (rt_cn (rt_nz dl) wr) = nI wr → P 0)) → wpX_deliveredCount (fun r => ((r = nI wr → P 1) ∧ (¬ r = nI wr → P 0))) (ir, nw, cw, ss, ct, sa, nI wr, nI nx, nI tc, ms, sr, rv, mr, rx, rr, nI rm, nI sh, am, tp, pc, ps, ur, nI rp, rt, ds, un, tl, ro, lm, bs, re, sd, la, dl, lo, ep, ts, fl, ta) := fun P hp => by
    unfold wpX_deliveredCount
    rw [← e] at hp
    exact xa_db (b := 64) (by omega) hp
  by_cases c0 : rt_cn (rt_nz dl) wr = wr
  · have a := (rt_cn_all (rt_nz dl) wr).mp c0
    exact ⟨1, fun P hp => br_f (by decide) (br_f (by decide) (br_f (by decide) (br_f (by decide) (br_f (by decide) (br_f (by decide) (br_f (by decide) (br_f (by decide) (br_f (by decide) (br_f (by decide) (br_f (by decide) (br_f (by decide) (br_f (by decide) (br_f (by decide) (br_f (by decide) (br_f (by decide) (br_f (by decide) (br_f (by decide) (br_f (by decide) (br_f (by decide) (br_f (by decide) (br_f (by decide) (br_f (by decide) (br_f (by decide) (br_f (by decide) (br_f (by decide) (br_f (by decide) (br_f (by decide) (br_f (by decide) (br_f (by decide) (br_f (by decide) (br_f (by decide) (br_f (by decide) (br_f (by decide) (br_t rfl (XC P (br_t (by rw [c0]) hp)))))))))))))))))))))))))))))))))))), fun P hp => br_f (by decide) (br_f (by decide) (br_f (by decide) (br_f (by decide) (br_f (by decide) (br_f (by decide) (br_f (by decide) (br_f (by decide) (br_f (by decide) (br_f (by decide) (br_f (by decide) (br_f (by decide) (br_f (by decide) (br_f (by decide) (br_f (by decide) (br_f (by decide) (br_f (by decide) (br_f (by decide) (br_f (by decide) (br_f (by decide) (br_f (by decide) (br_f (by decide) (br_f (by decide) (br_f (by decide) (br_f (by decide) (br_f (by decide) (br_f (by decide) (br_f (by decide) (br_f (by decide) (br_f (by decide) (br_f (by decide) (br_f (by decide) (br_f (by decide) (br_f (by decide) (br_t rfl (ya_cm n2 (fun _ => hp) (fun i hi z => absurd z (rt_nz_1 (a i hi))))))))))))))))))))))))))))))))))))))⟩
  · refine ⟨0, fun P hp => br_f (by decide) (br_f (by decide) (br_f (by decide) (br_f (by decide) (br_f (by decide) (br_f (by decide) (br_f (by decide) (br_f (by decide) (br_f (by decide) (br_f (by decide) (br_f (by decide) (br_f (by decide) (br_f (by decide) (br_f (by decide) (br_f (by decide) (br_f (by decide) (br_f (by decide) (br_f (by decide) (br_f (by decide) (br_f (by decide) (br_f (by decide) (br_f (by decide) (br_f (by decide) (br_f (by decide) (br_f (by decide) (br_f (by decide) (br_f (by decide) (br_f (by decide) (br_f (by decide) (br_f (by decide) (br_f (by decide) (br_f (by decide) (br_f (by decide) (br_f (by decide) (br_t rfl (XC P (br_f (fun z => c0 ((nI_eq (by omega) (by omega)).mp z)) hp)))))))))))))))))))))))))))))))))))), fun P hp => br_f (by decide) (br_f (by decide) (br_f (by decide) (br_f (by decide) (br_f (by decide) (br_f (by decide) (br_f (by decide) (br_f (by decide) (br_f (by decide) (br_f (by decide) (br_f (by decide) (br_f (by decide) (br_f (by decide) (br_f (by decide) (br_f (by decide) (br_f (by decide) (br_f (by decide) (br_f (by decide) (br_f (by decide) (br_f (by decide) (br_f (by decide) (br_f (by decide) (br_f (by decide) (br_f (by decide) (br_f (by decide) (br_f (by decide) (br_f (by decide) (br_f (by decide) (br_f (by decide) (br_f (by decide) (br_f (by decide) (br_f (by decide) (br_f (by decide) (br_f (by decide) (br_t rfl (ya_cm n2 ?_ (fun _ _ _ => hp))))))))))))))))))))))))))))))))))))⟩
    exact fun z => absurd ((rt_cn_all (rt_nz dl) wr).mpr (fun s hs => rt_nz_t (z s hs))) c0
theorem lh_s33 (hI : rt_IV nx wr tc rp sh rm rx ry hr dc bs re sd la dl lo ts fl rb aa ax ap) : ∃ r : Int32, (∀ P : Int32 → Prop, P r → wpX_stat P (ir, nw, cw, ss, ct, sa, nI wr, nI nx, nI tc, ms, sr, rv, mr, rx, rr, nI rm, nI sh, am, tp, pc, ps, ur, nI rp, rt, ds, un, tl, ro, lm, bs, re, sd, la, dl, lo, ep, ts, fl, ta) 33) ∧ (∀ P : Int32 → Prop, P r → wpY_stat P (ir, nI wr, nI tc, nw, cw, ss, ct, sa, nI nx, sr, rv, mr, ry, rr, nI rm, nI sh, am, pc, ps, ur, nI rp, rt, ds, un, tl, ro, lm, dc, ms, ms, hr, tp, bs, rb, re, sd, la, dl, lo, ep, mk, ts, ta, aa, ax, ap) 33) := ⟨am, fun P hp => br_f (by decide) (br_f (by decide) (br_f (by decide) (br_f (by decide) (br_f (by decide) (br_f (by decide) (br_f (by decide) (br_f (by decide) (br_f (by decide) (br_f (by decide) (br_f (by decide) (br_f (by decide) (br_f (by decide) (br_f (by decide) (br_f (by decide) (br_f (by decide) (br_f (by decide) (br_f (by decide) (br_f (by decide) (br_f (by decide) (br_f (by decide) (br_f (by decide) (br_f (by decide) (br_f (by decide) (br_f (by decide) (br_f (by decide) (br_f (by decide) (br_f (by decide) (br_f (by decide) (br_f (by decide) (br_f (by decide) (br_f (by decide) (br_f (by decide) (br_f (by decide) (br_f (by decide) (br_t rfl (hp)))))))))))))))))))))))))))))))))))), fun P hp => br_f (by decide) (br_f (by decide) (br_f (by decide) (br_f (by decide) (br_f (by decide) (br_f (by decide) (br_f (by decide) (br_f (by decide) (br_f (by decide) (br_f (by decide) (br_f (by decide) (br_f (by decide) (br_f (by decide) (br_f (by decide) (br_f (by decide) (br_f (by decide) (br_f (by decide) (br_f (by decide) (br_f (by decide) (br_f (by decide) (br_f (by decide) (br_f (by decide) (br_f (by decide) (br_f (by decide) (br_f (by decide) (br_f (by decide) (br_f (by decide) (br_f (by decide) (br_f (by decide) (br_f (by decide) (br_f (by decide) (br_f (by decide) (br_f (by decide) (br_f (by decide) (br_f (by decide) (br_t rfl (hp))))))))))))))))))))))))))))))))))))⟩
theorem lh_s34 (hI : rt_IV nx wr tc rp sh rm rx ry hr dc bs re sd la dl lo ts fl rb aa ax ap) : ∃ r : Int32, (∀ P : Int32 → Prop, P r → wpX_stat P (ir, nw, cw, ss, ct, sa, nI wr, nI nx, nI tc, ms, sr, rv, mr, rx, rr, nI rm, nI sh, am, tp, pc, ps, ur, nI rp, rt, ds, un, tl, ro, lm, bs, re, sd, la, dl, lo, ep, ts, fl, ta) 34) ∧ (∀ P : Int32 → Prop, P r → wpY_stat P (ir, nI wr, nI tc, nw, cw, ss, ct, sa, nI nx, sr, rv, mr, ry, rr, nI rm, nI sh, am, pc, ps, ur, nI rp, rt, ds, un, tl, ro, lm, dc, ms, ms, hr, tp, bs, rb, re, sd, la, dl, lo, ep, mk, ts, ta, aa, ax, ap) 34) := ⟨ct, fun P hp => br_f (by decide) (br_f (by decide) (br_f (by decide) (br_f (by decide) (br_f (by decide) (br_f (by decide) (br_f (by decide) (br_f (by decide) (br_f (by decide) (br_f (by decide) (br_f (by decide) (br_f (by decide) (br_f (by decide) (br_f (by decide) (br_f (by decide) (br_f (by decide) (br_f (by decide) (br_f (by decide) (br_f (by decide) (br_f (by decide) (br_f (by decide) (br_f (by decide) (br_f (by decide) (br_f (by decide) (br_f (by decide) (br_f (by decide) (br_f (by decide) (br_f (by decide) (br_f (by decide) (br_f (by decide) (br_f (by decide) (br_f (by decide) (br_f (by decide) (br_f (by decide) (br_f (by decide) (br_f (by decide) (br_t rfl (hp))))))))))))))))))))))))))))))))))))), fun P hp => br_f (by decide) (br_f (by decide) (br_f (by decide) (br_f (by decide) (br_f (by decide) (br_f (by decide) (br_f (by decide) (br_f (by decide) (br_f (by decide) (br_f (by decide) (br_f (by decide) (br_f (by decide) (br_f (by decide) (br_f (by decide) (br_f (by decide) (br_f (by decide) (br_f (by decide) (br_f (by decide) (br_f (by decide) (br_f (by decide) (br_f (by decide) (br_f (by decide) (br_f (by decide) (br_f (by decide) (br_f (by decide) (br_f (by decide) (br_f (by decide) (br_f (by decide) (br_f (by decide) (br_f (by decide) (br_f (by decide) (br_f (by decide) (br_f (by decide) (br_f (by decide) (br_f (by decide) (br_f (by decide) (br_t rfl (hp)))))))))))))))))))))))))))))))))))))⟩
theorem lh_s35 (hI : rt_IV nx wr tc rp sh rm rx ry hr dc bs re sd la dl lo ts fl rb aa ax ap) : ∃ r : Int32, (∀ P : Int32 → Prop, P r → wpX_stat P (ir, nw, cw, ss, ct, sa, nI wr, nI nx, nI tc, ms, sr, rv, mr, rx, rr, nI rm, nI sh, am, tp, pc, ps, ur, nI rp, rt, ds, un, tl, ro, lm, bs, re, sd, la, dl, lo, ep, ts, fl, ta) 35) ∧ (∀ P : Int32 → Prop, P r → wpY_stat P (ir, nI wr, nI tc, nw, cw, ss, ct, sa, nI nx, sr, rv, mr, ry, rr, nI rm, nI sh, am, pc, ps, ur, nI rp, rt, ds, un, tl, ro, lm, dc, ms, ms, hr, tp, bs, rb, re, sd, la, dl, lo, ep, mk, ts, ta, aa, ax, ap) 35) := by
  by_cases z : ms = 0
  · exact ⟨-1, fun P hp => br_f (by decide) (br_f (by decide) (br_f (by decide) (br_f (by decide) (br_f (by decide) (br_f (by decide) (br_f (by decide) (br_f (by decide) (br_f (by decide) (br_f (by decide) (br_f (by decide) (br_f (by decide) (br_f (by decide) (br_f (by decide) (br_f (by decide) (br_f (by decide) (br_f (by decide) (br_f (by decide) (br_f (by decide) (br_f (by decide) (br_f (by decide) (br_f (by decide) (br_f (by decide) (br_f (by decide) (br_f (by decide) (br_f (by decide) (br_f (by decide) (br_f (by decide) (br_f (by decide) (br_f (by decide) (br_f (by decide) (br_f (by decide) (br_f (by decide) (br_f (by decide) (br_f (by decide) (br_f (by decide) (br_f (by decide) (br_t rfl (br_t z hp)))))))))))))))))))))))))))))))))))))), fun P hp => br_f (by decide) (br_f (by decide) (br_f (by decide) (br_f (by decide) (br_f (by decide) (br_f (by decide) (br_f (by decide) (br_f (by decide) (br_f (by decide) (br_f (by decide) (br_f (by decide) (br_f (by decide) (br_f (by decide) (br_f (by decide) (br_f (by decide) (br_f (by decide) (br_f (by decide) (br_f (by decide) (br_f (by decide) (br_f (by decide) (br_f (by decide) (br_f (by decide) (br_f (by decide) (br_f (by decide) (br_f (by decide) (br_f (by decide) (br_f (by decide) (br_f (by decide) (br_f (by decide) (br_f (by decide) (br_f (by decide) (br_f (by decide) (br_f (by decide) (br_f (by decide) (br_f (by decide) (br_f (by decide) (br_f (by decide) (br_t rfl (br_t z hp))))))))))))))))))))))))))))))))))))))⟩
  · exact ⟨rt_mx (2 * sr) 2, fun P hp => br_f (by decide) (br_f (by decide) (br_f (by decide) (br_f (by decide) (br_f (by decide) (br_f (by decide) (br_f (by decide) (br_f (by decide) (br_f (by decide) (br_f (by decide) (br_f (by decide) (br_f (by decide) (br_f (by decide) (br_f (by decide) (br_f (by decide) (br_f (by decide) (br_f (by decide) (br_f (by decide) (br_f (by decide) (br_f (by decide) (br_f (by decide) (br_f (by decide) (br_f (by decide) (br_f (by decide) (br_f (by decide) (br_f (by decide) (br_f (by decide) (br_f (by decide) (br_f (by decide) (br_f (by decide) (br_f (by decide) (br_f (by decide) (br_f (by decide) (br_f (by decide) (br_f (by decide) (br_f (by decide) (br_f (by decide) (br_t rfl (br_f z (xa_pto hp))))))))))))))))))))))))))))))))))))))), fun P hp => br_f (by decide) (br_f (by decide) (br_f (by decide) (br_f (by decide) (br_f (by decide) (br_f (by decide) (br_f (by decide) (br_f (by decide) (br_f (by decide) (br_f (by decide) (br_f (by decide) (br_f (by decide) (br_f (by decide) (br_f (by decide) (br_f (by decide) (br_f (by decide) (br_f (by decide) (br_f (by decide) (br_f (by decide) (br_f (by decide) (br_f (by decide) (br_f (by decide) (br_f (by decide) (br_f (by decide) (br_f (by decide) (br_f (by decide) (br_f (by decide) (br_f (by decide) (br_f (by decide) (br_f (by decide) (br_f (by decide) (br_f (by decide) (br_f (by decide) (br_f (by decide) (br_f (by decide) (br_f (by decide) (br_f (by decide) (br_t rfl (br_f z (ya_pto hp)))))))))))))))))))))))))))))))))))))))⟩
theorem la_st (x : Int32) (hI : rt_IV nx wr tc rp sh rm rx ry hr dc bs re sd la dl lo ts fl rb aa ax ap) : ∃ r : Int32, (∀ P : Int32 → Prop, P r → wpX_stat P (ir, nw, cw, ss, ct, sa, nI wr, nI nx, nI tc, ms, sr, rv, mr, rx, rr, nI rm, nI sh, am, tp, pc, ps, ur, nI rp, rt, ds, un, tl, ro, lm, bs, re, sd, la, dl, lo, ep, ts, fl, ta) x) ∧ (∀ P : Int32 → Prop, P r → wpY_stat P (ir, nI wr, nI tc, nw, cw, ss, ct, sa, nI nx, sr, rv, mr, ry, rr, nI rm, nI sh, am, pc, ps, ur, nI rp, rt, ds, un, tl, ro, lm, dc, ms, ms, hr, tp, bs, rb, re, sd, la, dl, lo, ep, mk, ts, ta, aa, ax, ap) x) := by
  by_cases h0 : x < 0
  · exact ⟨0, fun P hp => br_t h0 hp, fun P hp => br_t h0 hp⟩
  by_cases h1 : 35 < x
  · exact ⟨0, fun P hp => br_f h0 (br_t h1 hp), fun P hp => br_f h0 (br_t h1 hp)⟩
  obtain ⟨j, hj, rfl⟩ := nI_of2 (x := x) (M := 35) (n := 35) (by decide) h0 (Int32.not_lt.mp h1)
  match j, hj with
  | 0, _ => exact lh_s0 hI
  | 1, _ => exact lh_s1 hI
  | 2, _ => exact lh_s2 hI
  | 3, _ => exact lh_s3 hI
  | 4, _ => exact lh_s4 hI
  | 5, _ => exact lh_s5 hI
  | 6, _ => exact lh_s6 hI
  | 7, _ => exact lh_s7 hI
  | 8, _ => exact lh_s8 hI
  | 9, _ => exact lh_s9 hI
  | 10, _ => exact lh_s10 hI
  | 11, _ => exact lh_s11 hI
  | 12, _ => exact lh_s12 hI
  | 13, _ => exact lh_s13 hI
  | 14, _ => exact lh_s14 hI
  | 15, _ => exact lh_s15 hI
  | 16, _ => exact lh_s16 hI
  | 17, _ => exact lh_s17 hI
  | 18, _ => exact lh_s18 hI
  | 19, _ => exact lh_s19 hI
  | 20, _ => exact lh_s20 hI
  | 21, _ => exact lh_s21 hI
  | 22, _ => exact lh_s22 hI
  | 23, _ => exact lh_s23 hI
  | 24, _ => exact lh_s24 hI
  | 25, _ => exact lh_s25 hI
  | 26, _ => exact lh_s26 hI
  | 27, _ => exact lh_s27 hI
  | 28, _ => exact lh_s28 hI
  | 29, _ => exact lh_s29 hI
  | 30, _ => exact lh_s30 hI
  | 31, _ => exact lh_s31 hI
  | 32, _ => exact lh_s32 hI
  | 33, _ => exact lh_s33 hI
  | 34, _ => exact lh_s34 hI
  | 35, _ => exact lh_s35 hI
  | n + 36, h => exact absurd h (by omega)
theorem xg_ti (ht : tc ≤ 256) (hj : j < tc) (hp : post (ts j + fl j)) : wpX_txInfo post (ir, nw, cw, ss, ct, sa, nI wr, nI nx, nI tc, ms, sr, rv, mr, rx, rr, nI rm, nI sh, am, tp, pc, ps, ur, nI rp, rt, ds, un, tl, ro, lm, bs, re, sd, la, dl, lo, ep, ts, fl, ta) (nI j) := by
  unfold wpX_txInfo
  rw [nI_clamp (by omega : j < 2 ^ 31)]
  exact xd_id1 ht hj (br_f (by decide) ⟨rt_i2 (by omega), rt_i2 (by omega), hp⟩)
theorem yg_ti {x y z : Bool} (ht : tc ≤ 256) (hj : j < tc) (e1 : aa j = rt_b x) (e2 : ax j = rt_b y) (e3 : ap j = rt_b z) (hp : post (((ts j + cond x 256 0) + cond y 512 0) + cond z 1024 0)) : wpY_txInfo post (ir, nI wr, nI tc, nw, cw, ss, ct, sa, nI nx, sr, rv, mr, ry, rr, nI rm, nI sh, am, pc, ps, ur, nI rp, rt, ds, un, tl, ro, lm, dc, ms, ms, hr, tp, bs, rb, re, sd, la, dl, lo, ep, mk, ts, ta, aa, ax, ap) (nI j) := by
  have ji : vp_in (nI j) 256 := rt_i2 (by omega)
  have c1 : aa (nI j).toNatClampNeg = rt_b x := by rw [rt_cp (by omega)]; exact e1
  have c2 : ax (nI j).toNatClampNeg = rt_b y := by rw [rt_cp (by omega)]; exact e2
  have c3 : ap (nI j).toNatClampNeg = rt_b z := by rw [rt_cp (by omega)]; exact e3
  have c4 : ts (nI j).toNatClampNeg = ts j := rt_at (by omega)
  have L3 : ∀ a b : Int32, post ((b + a) + cond z 1024 0) → wY_txInfo_53 post (nI j) a b ir (nI wr) (nI tc) nw cw ss ct sa (nI nx) sr rv mr ry rr (nI rm) (nI sh) am pc ps ur (nI rp) rt ds un tl ro lm dc ms ms hr tp bs rb re sd la dl lo ep mk ts ta aa ax ap := by
    intro a b h
    cases z
    · exact ⟨ji, br_t c3 h⟩
    · exact ⟨ji, br_f (by rw [c3]; decide) h⟩
  have L2 : ∀ a b : Int32, post (((b + a) + cond y 512 0) + cond z 1024 0) → wY_txInfo_36 post (nI j) a b ir (nI wr) (nI tc) nw cw ss ct sa (nI nx) sr rv mr ry rr (nI rm) (nI sh) am pc ps ur (nI rp) rt ds un tl ro lm dc ms ms hr tp bs rb re sd la dl lo ep mk ts ta aa ax ap := by
    intro a b h
    cases y
    · exact ⟨ji, br_t c2 (L3 _ _ h)⟩
    · exact ⟨ji, br_f (by rw [c2]; decide) (L3 _ _ h)⟩
  refine br_f (nI_pos (by omega)) (br_t (nI_lt hj (by omega)) ⟨ji, ji, ?_⟩)
  rw [c4]
  cases x
  · exact br_t c1 (L2 _ _ hp)
  · exact br_f (by rw [c1]; decide) (L2 _ _ hp)
theorem rt_fv_s (t : Int32) (x y z : Bool) : t + rt_fv x y z = ((t + cond x 256 0) + cond y 512 0) + cond z 1024 0 := by
  unfold rt_fv
  rw [Int32.add_assoc, Int32.add_assoc]
theorem la_ti (x : Int32) (hI : rt_IV nx wr tc rp sh rm rx ry hr dc bs re sd la dl lo ts fl rb aa ax ap) : ∃ r : Int32, (∀ P : Int32 → Prop, P r → wpX_txInfo P (ir, nw, cw, ss, ct, sa, nI wr, nI nx, nI tc, ms, sr, rv, mr, rx, rr, nI rm, nI sh, am, tp, pc, ps, ur, nI rp, rt, ds, un, tl, ro, lm, bs, re, sd, la, dl, lo, ep, ts, fl, ta) x) ∧ (∀ P : Int32 → Prop, P r → wpY_txInfo P (ir, nI wr, nI tc, nw, cw, ss, ct, sa, nI nx, sr, rv, mr, ry, rr, nI rm, nI sh, am, pc, ps, ur, nI rp, rt, ds, un, tl, ro, lm, dc, ms, ms, hr, tp, bs, rb, re, sd, la, dl, lo, ep, mk, ts, ta, aa, ax, ap) x) := by
  obtain ⟨⟨n1, n2, n3, n4, n5, n6⟩, hS, hZl, hZd, hZr, hL, hT, hK, hF, hB, hC⟩ := hI
  rcases pk_ix x (n := tc) (by omega) with h | h | ⟨j, hj, rfl⟩
  · refine ⟨-1, fun P hp => ?_, fun P hp => br_t h hp⟩
    unfold wpX_txInfo
    exact xd_id0 (Or.inl h) (br_t rfl hp)
  · refine ⟨-1, fun P hp => ?_, fun P hp => ?_⟩
    · unfold wpX_txInfo
      exact xd_id0 (Or.inr h) (br_t rfl hp)
    · by_cases z : x < 0
      · exact br_t z hp
      · exact br_f z (br_f (Int32.not_lt.mpr h) hp)
  · obtain ⟨a, b, c, e1, e2, e3, e4⟩ := hF j hj
    refine ⟨ts j + fl j, fun P hp => xg_ti n3 hj hp, fun P hp => yg_ti n3 hj e1 e2 e3 ?_⟩
    rw [e4, rt_fv_s] at hp
    exact hp
theorem la_tt (x : Int32) (hI : rt_IV nx wr tc rp sh rm rx ry hr dc bs re sd la dl lo ts fl rb aa ax ap) : ∃ r : Int32, (∀ P : Int32 → Prop, P r → wpX_txTime P (ir, nw, cw, ss, ct, sa, nI wr, nI nx, nI tc, ms, sr, rv, mr, rx, rr, nI rm, nI sh, am, tp, pc, ps, ur, nI rp, rt, ds, un, tl, ro, lm, bs, re, sd, la, dl, lo, ep, ts, fl, ta) x) ∧ (∀ P : Int32 → Prop, P r → wpY_txTime P (ir, nI wr, nI tc, nw, cw, ss, ct, sa, nI nx, sr, rv, mr, ry, rr, nI rm, nI sh, am, pc, ps, ur, nI rp, rt, ds, un, tl, ro, lm, dc, ms, ms, hr, tp, bs, rb, re, sd, la, dl, lo, ep, mk, ts, ta, aa, ax, ap) x) := by
  obtain ⟨⟨n1, n2, n3, n4, n5, n6⟩, hS, hZl, hZd, hZr, hL, hT, hK, hF, hB, hC⟩ := hI
  rcases pk_ix x (n := tc) (by omega) with h | h | ⟨j, hj, rfl⟩
  · refine ⟨-1, fun P hp => ?_, fun P hp => br_t h hp⟩
    unfold wpX_txTime
    exact xd_id0 (Or.inl h) (br_t rfl hp)
  · refine ⟨-1, fun P hp => ?_, fun P hp => ?_⟩
    · unfold wpX_txTime
      exact xd_id0 (Or.inr h) (br_t rfl hp)
    · by_cases z : x < 0
      · exact br_t z hp
      · exact br_f z (br_f (Int32.not_lt.mpr h) hp)
  · refine ⟨ta (nI j).toNatClampNeg, fun P hp => ?_, fun P hp => br_f (nI_pos (by omega)) (br_t (nI_lt hj (by omega)) ⟨rt_i2 (by omega), hp⟩)⟩
    unfold wpX_txTime
    exact xd_id1 n3 hj (br_f (by decide) ⟨rt_i2 (by omega), hp⟩)
/-- a flag's share of a segment's number -/
def rt_q (c : Prop) [Decidable c] (n : Int32) : Int32 := if c then 0 else n
theorem rt_q0 {c : Prop} [Decidable c] {n : Int32} (h : c) : rt_q c n = 0 := if_pos h
theorem rt_q1 {c : Prop} [Decidable c] {n : Int32} (h : ¬ c) : rt_q c n = n := if_neg h
theorem xg_84 {a b : Int32} (hs : s < 64) (hp : post ((b + a) + rt_q (re s = 0) 8)) : wX_segment_84 post (nI s) a b ir nw cw ss ct sa (nI wr) (nI nx) (nI tc) ms sr rv mr rx rr (nI rm) (nI sh) am tp pc ps ur (nI rp) rt ds un tl ro lm bs re sd la dl lo ep ts fl ta :=
  nm_e ⟨rt_in hs, rt_bz hs (fun z => by rw [rt_q0 z] at hp; exact nm_e hp) (fun z => by rw [rt_q1 z] at hp; exact nm_e hp)⟩
theorem xg_67 {a b : Int32} (hs : s < 64) (hp : post (((b + a) + rt_q (lo s = 0) 4) + rt_q (re s = 0) 8)) : wX_segment_67 post (nI s) a b ir nw cw ss ct sa (nI wr) (nI nx) (nI tc) ms sr rv mr rx rr (nI rm) (nI sh) am tp pc ps ur (nI rp) rt ds un tl ro lm bs re sd la dl lo ep ts fl ta :=
  nm_e ⟨rt_in hs, rt_bz hs (fun z => by rw [rt_q0 z] at hp; exact xg_84 hs hp) (fun z => by rw [rt_q1 z] at hp; exact xg_84 hs hp)⟩
theorem xg_50 {a b : Int32} (hs : s < 64) (hp : post ((((b + a) + rt_q (dl s = 0) 2) + rt_q (lo s = 0) 4) + rt_q (re s = 0) 8)) : wX_segment_50 post (nI s) a b ir nw cw ss ct sa (nI wr) (nI nx) (nI tc) ms sr rv mr rx rr (nI rm) (nI sh) am tp pc ps ur (nI rp) rt ds un tl ro lm bs re sd la dl lo ep ts fl ta :=
  nm_e ⟨rt_in hs, rt_bz hs (fun z => by rw [rt_q0 z] at hp; exact xg_67 hs hp) (fun z => by rw [rt_q1 z] at hp; exact xg_67 hs hp)⟩
theorem xg_sg (hw : wr ≤ 64) (hs : s < wr) (hp : post ((((((sd s * 256) + (ep s * 1048576)) + rt_q (sd s ≤ 0) 1) + rt_q (dl s = 0) 2) + rt_q (lo s = 0) 4) + rt_q (re s = 0) 8)) : wpX_segment post (ir, nw, cw, ss, ct, sa, nI wr, nI nx, nI tc, ms, sr, rv, mr, rx, rr, nI rm, nI sh, am, tp, pc, ps, ur, nI rp, rt, ds, un, tl, ro, lm, bs, re, sd, la, dl, lo, ep, ts, fl, ta) (nI s) := by
  unfold wpX_segment
  rw [nI_clamp (by omega : s < 2 ^ 31)]
  have si : vp_in (nI s) 64 := rt_in (by omega)
  refine br_f (nI_pos (by omega)) (br_t (nI_lt hs (by omega)) ⟨si, si, nm_e ⟨si, br_c (fun z => ?_) (fun z => ?_)⟩⟩)
  · rw [rt_q0 z] at hp; exact xg_50 (by omega) hp
  · rw [rt_q1 z] at hp; exact xg_50 (by omega) hp
theorem yg_73 {a b : Int32} (hs : s < 64) (hp : post (((b + a) + (sd s * 256)) + (ep s * 1048576))) : wY_segment_73 post (nI s) a b ir (nI wr) (nI tc) nw cw ss ct sa (nI nx) sr rv mr ry rr (nI rm) (nI sh) am pc ps ur (nI rp) rt ds un tl ro lm dc ms ms hr tp bs rb re sd la dl lo ep mk ts ta aa ax ap := by
  unfold wY_segment_73
  rw [nI_clamp (by omega : s < 2 ^ 31)]
  exact nm_e ⟨rt_in hs, rt_in hs, hp⟩
theorem yg_57 {a b : Int32} (hs : s < 64) (hp : post ((((b + a) + rt_q (re s = 0) 8) + (sd s * 256)) + (ep s * 1048576))) : wY_segment_57 post (nI s) a b ir (nI wr) (nI tc) nw cw ss ct sa (nI nx) sr rv mr ry rr (nI rm) (nI sh) am pc ps ur (nI rp) rt ds un tl ro lm dc ms ms hr tp bs rb re sd la dl lo ep mk ts ta aa ax ap :=
  ⟨rt_in hs, rt_bz hs (fun z => by rw [rt_q0 z] at hp; exact yg_73 hs hp) (fun z => by rw [rt_q1 z] at hp; exact yg_73 hs hp)⟩
theorem yg_42 {a b : Int32} (hs : s < 64) (hp : post (((((b + a) + rt_q (lo s = 0) 4) + rt_q (re s = 0) 8) + (sd s * 256)) + (ep s * 1048576))) : wY_segment_42 post (nI s) a b ir (nI wr) (nI tc) nw cw ss ct sa (nI nx) sr rv mr ry rr (nI rm) (nI sh) am pc ps ur (nI rp) rt ds un tl ro lm dc ms ms hr tp bs rb re sd la dl lo ep mk ts ta aa ax ap :=
  ⟨rt_in hs, rt_bz hs (fun z => by rw [rt_q0 z] at hp; exact yg_57 hs hp) (fun z => by rw [rt_q1 z] at hp; exact yg_57 hs hp)⟩
theorem yg_28 {b : Int32} (hs : s < 64) (hp : post (((((b + rt_q (dl s = 0) 2) + rt_q (lo s = 0) 4) + rt_q (re s = 0) 8) + (sd s * 256)) + (ep s * 1048576))) : wY_segment_28 post (nI s) b ir (nI wr) (nI tc) nw cw ss ct sa (nI nx) sr rv mr ry rr (nI rm) (nI sh) am pc ps ur (nI rp) rt ds un tl ro lm dc ms ms hr tp bs rb re sd la dl lo ep mk ts ta aa ax ap :=
  ⟨rt_in hs, rt_bz hs (fun z => by rw [rt_q0 z] at hp; exact yg_42 hs hp) (fun z => by rw [rt_q1 z] at hp; exact yg_42 hs hp)⟩
theorem yg_sg (hw : wr ≤ 64) (hs : s < wr) (hp : post (((((rt_q (sd s ≤ 0) 1 + rt_q (dl s = 0) 2) + rt_q (lo s = 0) 4) + rt_q (re s = 0) 8) + (sd s * 256)) + (ep s * 1048576))) : wpY_segment post (ir, nI wr, nI tc, nw, cw, ss, ct, sa, nI nx, sr, rv, mr, ry, rr, nI rm, nI sh, am, pc, ps, ur, nI rp, rt, ds, un, tl, ro, lm, dc, ms, ms, hr, tp, bs, rb, re, sd, la, dl, lo, ep, mk, ts, ta, aa, ax, ap) (nI s) := by
  unfold wpY_segment
  rw [nI_clamp (by omega : s < 2 ^ 31)]
  have si : vp_in (nI s) 64 := rt_in (by omega)
  refine br_f (nI_pos (by omega)) (br_t (nI_lt hs (by omega)) ⟨si, br_c (fun z => ?_) (fun z => ?_)⟩)
  · rw [rt_q0 z] at hp; exact yg_28 (by omega) hp
  · rw [rt_q1 z] at hp; exact yg_28 (by omega) hp
theorem rt_sum (p q a b c d : Int32) : ((((p + q) + a) + b) + c) + d = ((((a + b) + c) + d) + p) + q := by
  rw [Int32.add_assoc (((a + b) + c) + d) p q, Int32.add_comm (((a + b) + c) + d) (p + q)]
  rw [← Int32.add_assoc, ← Int32.add_assoc, ← Int32.add_assoc]
theorem la_sg (x : Int32) (hI : rt_IV nx wr tc rp sh rm rx ry hr dc bs re sd la dl lo ts fl rb aa ax ap) : ∃ r : Int32, (∀ P : Int32 → Prop, P r → wpX_segment P (ir, nw, cw, ss, ct, sa, nI wr, nI nx, nI tc, ms, sr, rv, mr, rx, rr, nI rm, nI sh, am, tp, pc, ps, ur, nI rp, rt, ds, un, tl, ro, lm, bs, re, sd, la, dl, lo, ep, ts, fl, ta) x) ∧ (∀ P : Int32 → Prop, P r → wpY_segment P (ir, nI wr, nI tc, nw, cw, ss, ct, sa, nI nx, sr, rv, mr, ry, rr, nI rm, nI sh, am, pc, ps, ur, nI rp, rt, ds, un, tl, ro, lm, dc, ms, ms, hr, tp, bs, rb, re, sd, la, dl, lo, ep, mk, ts, ta, aa, ax, ap) x) := by
  have n2 : wr ≤ 64 := hI.1.2.1
  rcases pk_ix x (n := wr) (by omega) with h | h | ⟨j, hj, rfl⟩
  · exact ⟨-1, fun P hp => br_t h hp, fun P hp => br_t h hp⟩
  · by_cases z : x < 0
    · exact ⟨-1, fun P hp => br_t z hp, fun P hp => br_t z hp⟩
    · exact ⟨-1, fun P hp => br_f z (br_f (Int32.not_lt.mpr h) hp), fun P hp => br_f z (br_f (Int32.not_lt.mpr h) hp)⟩
  · refine ⟨_, fun P hp => xg_sg n2 hj hp, fun P hp => yg_sg n2 hj ?_⟩
    rw [rt_sum] at hp
    exact hp
theorem la_rb (x : Int32) (hI : rt_IV nx wr tc rp sh rm rx ry hr dc bs re sd la dl lo ts fl rb aa ax ap) : ∃ r : Int32, (∀ P : Int32 → Prop, P r → wpX_recvByte P (ir, nw, cw, ss, ct, sa, nI wr, nI nx, nI tc, ms, sr, rv, mr, rx, rr, nI rm, nI sh, am, tp, pc, ps, ur, nI rp, rt, ds, un, tl, ro, lm, bs, re, sd, la, dl, lo, ep, ts, fl, ta) x) ∧ (∀ P : Int32 → Prop, P r → wpY_recvByte P (ir, nI wr, nI tc, nw, cw, ss, ct, sa, nI nx, sr, rv, mr, ry, rr, nI rm, nI sh, am, pc, ps, ur, nI rp, rt, ds, un, tl, ro, lm, dc, ms, ms, hr, tp, bs, rb, re, sd, la, dl, lo, ep, mk, ts, ta, aa, ax, ap) x) := by
  have hB : rt_IB re rb bs := hI.2.2.2.2.2.2.2.2.2.1
  by_cases z : x < 0
  · exact ⟨-1, fun P hp => br_t z hp, fun P hp => br_t z hp⟩
  by_cases h : (64 : Int32) ≤ x
  · exact ⟨-1, fun P hp => br_f z (br_t h hp), fun P hp => br_f z (br_t h hp)⟩
  rcases pk_ix x (n := 64) (by omega) with g | g | ⟨j, hj, rfl⟩
  · exact absurd g z
  · exact absurd g h
  · by_cases r0 : re j = 0
    · exact ⟨-1, fun P hp => br_f z (br_f h ⟨rt_in hj, rt_bz hj (fun _ => hp) (fun y => absurd r0 y)⟩), fun P hp => br_f z (br_f h ⟨rt_in hj, rt_bz hj (fun _ => hp) (fun y => absurd r0 y)⟩)⟩
    · refine ⟨bs j, fun P hp => br_f z (br_f h ⟨rt_in hj, rt_bz hj (fun y => absurd y r0) (fun _ => ⟨rt_in hj, ?_⟩)⟩), fun P hp => br_f z (br_f h ⟨rt_in hj, rt_bz hj (fun y => absurd y r0) (fun _ => ⟨rt_in hj, ?_⟩)⟩)⟩
      · rw [rt_cp (by omega)]; exact hp
      · rw [rt_cp (by omega), hB j r0]; exact hp
end
end
section
/-! what is owed -/
theorem rt_IV0 : rt_IV 0 0 0 0 0 1 (-1) 0 0 0 (fun _ => 0) (fun _ => 0) (fun _ => 0) (fun _ => 0) (fun _ => 0) (fun _ => 0) (fun _ => 0) (fun _ => 0) (fun _ => 0) (fun _ => 0) (fun _ => 0) (fun _ => 0) := by
  refine ⟨⟨by omega, by omega, by omega, by omega, by omega, by omega⟩, ⟨fun s hs => absurd hs (Nat.not_lt_zero s), fun _ _ => rfl⟩, fun _ _ => rfl, fun _ _ => rfl, fun _ _ => rfl, fun _ => ⟨0, by omega, rfl⟩, fun t ht => absurd ht (Nat.not_lt_zero t), Or.inl ⟨rfl, rfl⟩, fun t ht => absurd ht (Nat.not_lt_zero t), fun s hs => absurd rfl hs, ?_⟩
  have e := rt_cn_hi (rt_nz (fun _ => 0)) (n := 0) (fun s _ => rt_nz_f rfl) 64
  rw [Nat.zero_add] at e
  unfold rt_IC
  rw [e]
  rfl
theorem yz_in {P : SY → Prop} {p q : Int32} (hp : P (rt_cl q 4 1000, 0, 0, 0, rt_cl p 1 16, 32, 0, 0, 0, 0, 0, 0, 0, 0, 1, 0, 0, 0, 0, 0, 0, 0, 0, 0, 0, 0, 0, 0, 0, 0, 0, 0, (fun _ => 0), (fun _ => 0), (fun _ => 0), (fun _ => 0), (fun _ => 0), (fun _ => 0), (fun _ => 0), (fun _ => 0), (fun _ => 0), (fun _ => 0), (fun _ => 0), (fun _ => 0), (fun _ => 0), (fun _ => 0))) : wpY_init P p q := by
  have B : ∀ x : Int32, rt_cl p 1 16 = x → wY_init_150 P q x 0 0 0 0 0 32 0 0 0 0 0 0 0 0 1 0 0 0 0 0 0 0 0 0 0 0 0 0 0 0 0 0 (fun _ => 0) (fun _ => 0) (fun _ => 0) (fun _ => 0) (fun _ => 0) (fun _ => 0) (fun _ => 0) (fun _ => 0) (fun _ => 0) (fun _ => 0) (fun _ => 0) (fun _ => 0) (fun _ => 0) (fun _ => 0)  := by
    intro x e
    rw [e] at hp
    refine br_c (fun a => br_c (fun b => ?_) (fun b => ?_)) (fun a => br_t (by decide) ?_)
    · rw [rt_cl_c (Int32.not_lt.mpr a) (Int32.not_lt.mpr b)] at hp; exact hp
    · rw [rt_cl_b (Int32.not_lt.mpr a) (Int32.not_le.mp b)] at hp; exact hp
    · rw [rt_cl_a (Int32.not_le.mp a)] at hp; exact hp
  refine br_c (fun a => br_c (fun b => ?_) (fun b => ?_)) (fun a => br_t (by decide) ?_)
  · exact B _ (rt_cl_c (Int32.not_lt.mpr a) (Int32.not_lt.mpr b))
  · exact B _ (rt_cl_b (Int32.not_lt.mpr a) (Int32.not_le.mp b))
  · exact B _ (rt_cl_a (Int32.not_le.mp a))
theorem i_vc0 (k0 : Int32) (k1 : Int32) : wpX_init (fun u => wpY_init (fun v => i_Rel 2 u v) k0 k1) k0 k1 := by
  unfold wpX_init
  refine xa_clamp ?_
  refine xa_clamp ?_
  exact yz_in ⟨0, rt_RLi (wr := 0) (nx := 0) (rm := 1) (sh := 0) (rp := 0) rt_IV0⟩
theorem i_vc_write {k : Nat} {u : SX} {v : SY} (I : i_Rel k u v) (hk : k + 2 ≤ 1026) (v1 : Int32) : wpX_write (fun r u' => wpY_write (fun r' v' => r' = r ∧ i_Rel (k + 2) u' v') v v1) u v1 := by
  obtain ⟨tc, wr, nx, rm, sh, rp, ir, nw, cw, ss, ct, sa, ms, sr, rv, mr, rx, rr, am, tp, pc, ps, ur, rt, ds, un, tl, ro, lm, ry, hr, dc, bs, re, sd, la, dl, lo, ep, ts, fl, ta, rb, mk, aa, ax, ap, rfl, rfl, hI⟩ := I
  have hI0 := hI
  obtain ⟨⟨n1, n2, n3, n4, n5, n6⟩, hS, hZl, hZd, hZr, hL, hT, hK, hF, hB, hC⟩ := hI0
  rcases Nat.lt_or_ge wr 64 with h | h
  · have w1 : nI wr < 64 := nI_lt (b := 64) h (by decide)
    have hB2 : rt_IB re rb (upd bs wr (v1 &&& 255)) := fun s hs => by
      rcases Nat.lt_or_ge s nx with g | g
      · rw [pk_un (by omega)]; exact hB s hs
      · exact absurd (hZr s g) hs
    obtain ⟨t, u2, v2, hX, hY, R⟩ := la_sd (nx := nx) (tc := tc) (rm := rm) (sh := sh) (rp := rp) (ir := ir) (nw := nw) (cw := cw) (ss := ss) (ct := ct) (sa := sa) (ms := ms) (sr := sr) (rv := rv) (mr := mr) (rx := rx) (rr := rr) (am := am) (tp := tp) (pc := pc) (ps := ps) (ur := ur) (rt := rt) (ds := ds) (un := un) (tl := tl) (ro := ro) (lm := lm) (ry := ry) (hr := hr) (dc := dc) (re := re) (sd := sd) (la := la) (dl := dl) (lo := lo) (ep := ep) (ts := ts) (fl := fl) (ta := ta) (rb := rb) (mk := mk) (aa := aa) (ax := ax) (ap := ap) (wr := wr + 1) (bs := upd bs wr (v1 &&& 255)) ⟨⟨by omega, by omega, n3, n4, n5, n6⟩, hS, hZl, hZd, hZr, hL, hT, hK, hF, hB2, hC⟩
    obtain ⟨wr', nx', rm', sh', rp', ir', nw', cw', ss', ct', sa', ms', sr', rv', mr', rx', rr', am', tp', pc', ps', ur', rt', ds', un', tl', ro', lm', ry', hr', dc', bs', re', sd', la', dl', lo', ep', ts', fl', ta', rb', mk', aa', ax', ap', rfl, rfl, hI'⟩ := R
    refine br_t w1 ⟨rt_in h, nm_r (rt_ua (by omega)) (nm_r (nI_1 wr) (hX _ ?_))⟩
    exact br_t w1 ⟨rt_in h, nm_r (rt_ua (by omega)) (nm_r (nI_1 wr) (hY _ ⟨rfl, t, rt_RLi (wr := wr') (nx := nx') (rm := rm') (sh := sh') (rp := rp') (ir := ir') (nw := nw') (cw := cw') (ss := ss') (ct := ct') (sa := sa') (ms := ms') (sr := sr') (rv := rv') (mr := mr') (rx := rx') (rr := rr') (am := am') (tp := tp') (pc := pc') (ps := ps') (ur := ur') (rt := rt') (ds := ds') (un := un') (tl := tl') (ro := ro') (lm := lm') (ry := ry') (hr := hr') (dc := dc') (bs := bs') (re := re') (sd := sd') (la := la') (dl := dl') (lo := lo') (ep := ep') (ts := ts') (fl := fl') (ta := ta') (rb := rb') (mk := mk') (aa := aa') (ax := ax') (ap := ap') hI'⟩))⟩
  · have w1 : ¬ nI wr < 64 := nI_nlt (b := 64) h (by omega)
    exact br_f w1 (br_f w1 ⟨rfl, tc, rt_RLi hI⟩)
theorem i_vc_deliver {k : Nat} {u : SX} {v : SY} (I : i_Rel k u v) (hk : k + 2 ≤ 1026) (v1 : Int32) : wpX_deliver (fun r u' => wpY_deliver (fun r' v' => r' = r ∧ i_Rel (k + 2) u' v') v v1) u v1 := by
  obtain ⟨tc, wr, nx, rm, sh, rp, ir, nw, cw, ss, ct, sa, ms, sr, rv, mr, rx, rr, am, tp, pc, ps, ur, rt, ds, un, tl, ro, lm, ry, hr, dc, bs, re, sd, la, dl, lo, ep, ts, fl, ta, rb, mk, aa, ax, ap, rfl, rfl, hI⟩ := I
  obtain ⟨t, r, u2, v2, hX, hY, R⟩ := la_dv (wr := wr) (nx := nx) (tc := tc) (rm := rm) (sh := sh) (rp := rp) (ir := ir) (nw := nw) (cw := cw) (ss := ss) (ct := ct) (sa := sa) (ms := ms) (sr := sr) (rv := rv) (mr := mr) (rx := rx) (rr := rr) (am := am) (tp := tp) (pc := pc) (ps := ps) (ur := ur) (rt := rt) (ds := ds) (un := un) (tl := tl) (ro := ro) (lm := lm) (ry := ry) (hr := hr) (dc := dc) (bs := bs) (re := re) (sd := sd) (la := la) (dl := dl) (lo := lo) (ep := ep) (ts := ts) (fl := fl) (ta := ta) (rb := rb) (mk := mk) (aa := aa) (ax := ax) (ap := ap) (x := v1) hI
  exact hX _ (hY _ ⟨rfl, t, R⟩)
theorem i_vc_deliverNoAck {k : Nat} {u : SX} {v : SY} (I : i_Rel k u v) (hk : k + 2 ≤ 1026) (v1 : Int32) : wpX_deliverNoAck (fun r u' => wpY_deliverNoAck (fun r' v' => r' = r ∧ i_Rel (k + 2) u' v') v v1) u v1 := by
  obtain ⟨tc, wr, nx, rm, sh, rp, ir, nw, cw, ss, ct, sa, ms, sr, rv, mr, rx, rr, am, tp, pc, ps, ur, rt, ds, un, tl, ro, lm, ry, hr, dc, bs, re, sd, la, dl, lo, ep, ts, fl, ta, rb, mk, aa, ax, ap, rfl, rfl, hI⟩ := I
  obtain ⟨t, r, u2, v2, hX, hY, R⟩ := la_dn (wr := wr) (nx := nx) (tc := tc) (rm := rm) (sh := sh) (rp := rp) (ir := ir) (nw := nw) (cw := cw) (ss := ss) (ct := ct) (sa := sa) (ms := ms) (sr := sr) (rv := rv) (mr := mr) (rx := rx) (rr := rr) (am := am) (tp := tp) (pc := pc) (ps := ps) (ur := ur) (rt := rt) (ds := ds) (un := un) (tl := tl) (ro := ro) (lm := lm) (ry := ry) (hr := hr) (dc := dc) (bs := bs) (re := re) (sd := sd) (la := la) (dl := dl) (lo := lo) (ep := ep) (ts := ts) (fl := fl) (ta := ta) (rb := rb) (mk := mk) (aa := aa) (ax := ax) (ap := ap) (x := v1) hI
  exact hX _ (hY _ ⟨rfl, t, R⟩)
theorem i_vc_tick {k : Nat} {u : SX} {v : SY} (I : i_Rel k u v) (hk : k + 2 ≤ 1026) (v1 : Int32) : wpX_tick (fun r u' => wpY_tick (fun r' v' => r' = r ∧ i_Rel (k + 2) u' v') v v1) u v1 := by
  obtain ⟨tc, wr, nx, rm, sh, rp, ir, nw, cw, ss, ct, sa, ms, sr, rv, mr, rx, rr, am, tp, pc, ps, ur, rt, ds, un, tl, ro, lm, ry, hr, dc, bs, re, sd, la, dl, lo, ep, ts, fl, ta, rb, mk, aa, ax, ap, rfl, rfl, hI⟩ := I
  obtain ⟨t, r, u2, v2, hX, hY, R⟩ := la_tk_l (g := nw + rt_cl v1 0 10000) 64 wr nx tc rm sh rp ir nw cw ss ct sa ms sr rv mr rx rr am tp pc ps ur rt ds un tl ro lm ry hr dc bs re sd la dl lo ep ts fl ta rb mk aa ax ap hI 0 (by omega)
  have Y : ∀ P : Int32 → SY → Prop, P r v2 → wpY_tick P (ir, nI wr, nI tc, nw, cw, ss, ct, sa, nI nx, sr, rv, mr, ry, rr, nI rm, nI sh, am, pc, ps, ur, nI rp, rt, ds, un, tl, ro, lm, dc, ms, ms, hr, tp, bs, rb, re, sd, la, dl, lo, ep, mk, ts, ta, aa, ax, ap) v1 := by
    intro P hp
    have B : ∀ x : Int32, rt_cl v1 0 10000 = x → wY_tick_19 P x ir (nI wr) (nI tc) nw cw ss ct sa (nI nx) sr rv mr ry rr (nI rm) (nI sh) am pc ps ur (nI rp) rt ds un tl ro lm dc ms ms hr tp bs rb re sd la dl lo ep mk ts ta aa ax ap := by
      intro x e
      rw [e] at hY
      exact nm_e ⟨65, hY P 65 hp (by omega)⟩
    refine br_c (fun a => br_c (fun b => ?_) (fun b => ?_)) (fun a => br_t (by decide) ?_)
    · exact B _ (rt_cl_c (Int32.not_lt.mpr a) (Int32.not_lt.mpr b))
    · exact B _ (rt_cl_b (Int32.not_lt.mpr a) (Int32.not_le.mp b))
    · exact B _ (rt_cl_a (Int32.not_le.mp a))
  unfold wpX_tick
  refine xa_clamp ?_
  exact nm_e ⟨65, hX _ 65 (Y _ ⟨rfl, t, R⟩) (by omega)⟩
theorem i_vc_txInfo {k : Nat} {u : SX} {v : SY} (I : i_Rel k u v) (hk : k + 2 ≤ 1026) (v1 : Int32) : wpX_txInfo (fun r => wpY_txInfo (fun r' => r' = r ∧ i_Rel (k + 2) u v) v v1) u v1 := by
  have J : i_Rel (k + 2) u v := I
  obtain ⟨tc, wr, nx, rm, sh, rp, ir, nw, cw, ss, ct, sa, ms, sr, rv, mr, rx, rr, am, tp, pc, ps, ur, rt, ds, un, tl, ro, lm, ry, hr, dc, bs, re, sd, la, dl, lo, ep, ts, fl, ta, rb, mk, aa, ax, ap, rfl, rfl, hI⟩ := I
  obtain ⟨r, hX, hY⟩ := la_ti (wr := wr) (nx := nx) (tc := tc) (rm := rm) (sh := sh) (rp := rp) (ir := ir) (nw := nw) (cw := cw) (ss := ss) (ct := ct) (sa := sa) (ms := ms) (sr := sr) (rv := rv) (mr := mr) (rx := rx) (rr := rr) (am := am) (tp := tp) (pc := pc) (ps := ps) (ur := ur) (rt := rt) (ds := ds) (un := un) (tl := tl) (ro := ro) (lm := lm) (ry := ry) (hr := hr) (dc := dc) (bs := bs) (re := re) (sd := sd) (la := la) (dl := dl) (lo := lo) (ep := ep) (ts := ts) (fl := fl) (ta := ta) (rb := rb) (mk := mk) (aa := aa) (ax := ax) (ap := ap) v1 hI
  exact hX _ (hY _ ⟨rfl, J⟩)
theorem i_vc_txTime {k : Nat} {u : SX} {v : SY} (I : i_Rel k u v) (hk : k + 2 ≤ 1026) (v1 : Int32) : wpX_txTime (fun r => wpY_txTime (fun r' => r' = r ∧ i_Rel (k + 2) u v) v v1) u v1 := by
  have J : i_Rel (k + 2) u v := I
  obtain ⟨tc, wr, nx, rm, sh, rp, ir, nw, cw, ss, ct, sa, ms, sr, rv, mr, rx, rr, am, tp, pc, ps, ur, rt, ds, un, tl, ro, lm, ry, hr, dc, bs, re, sd, la, dl, lo, ep, ts, fl, ta, rb, mk, aa, ax, ap, rfl, rfl, hI⟩ := I
  obtain ⟨r, hX, hY⟩ := la_tt (wr := wr) (nx := nx) (tc := tc) (rm := rm) (sh := sh) (rp := rp) (ir := ir) (nw := nw) (cw := cw) (ss := ss) (ct := ct) (sa := sa) (ms := ms) (sr := sr) (rv := rv) (mr := mr) (rx := rx) (rr := rr) (am := am) (tp := tp) (pc := pc) (ps := ps) (ur := ur) (rt := rt) (ds := ds) (un := un) (tl := tl) (ro := ro) (lm := lm) (ry := ry) (hr := hr) (dc := dc) (bs := bs) (re := re) (sd := sd) (la := la) (dl := dl) (lo := lo) (ep := ep) (ts := ts) (fl := fl) (ta := ta) (rb := rb) (mk := mk) (aa := aa) (ax := ax) (ap := ap) v1 hI
  exact hX _ (hY _ ⟨rfl, J⟩)
theorem i_vc_segment {k : Nat} {u : SX} {v : SY} (I : i_Rel k u v) (hk : k + 2 ≤ 1026) (v1 : Int32) : wpX_segment (fun r => wpY_segment (fun r' => r' = r ∧ i_Rel (k + 2) u v) v v1) u v1 := by
  have J : i_Rel (k + 2) u v := I
  obtain ⟨tc, wr, nx, rm, sh, rp, ir, nw, cw, ss, ct, sa, ms, sr, rv, mr, rx, rr, am, tp, pc, ps, ur, rt, ds, un, tl, ro, lm, ry, hr, dc, bs, re, sd, la, dl, lo, ep, ts, fl, ta, rb, mk, aa, ax, ap, rfl, rfl, hI⟩ := I
  obtain ⟨r, hX, hY⟩ := la_sg (wr := wr) (nx := nx) (tc := tc) (rm := rm) (sh := sh) (rp := rp) (ir := ir) (nw := nw) (cw := cw) (ss := ss) (ct := ct) (sa := sa) (ms := ms) (sr := sr) (rv := rv) (mr := mr) (rx := rx) (rr := rr) (am := am) (tp := tp) (pc := pc) (ps := ps) (ur := ur) (rt := rt) (ds := ds) (un := un) (tl := tl) (ro := ro) (lm := lm) (ry := ry) (hr := hr) (dc := dc) (bs := bs) (re := re) (sd := sd) (la := la) (dl := dl) (lo := lo) (ep := ep) (ts := ts) (fl := fl) (ta := ta) (rb := rb) (mk := mk) (aa := aa) (ax := ax) (ap := ap) v1 hI
  exact hX _ (hY _ ⟨rfl, J⟩)
theorem i_vc_recvByte {k : Nat} {u : SX} {v : SY} (I : i_Rel k u v) (hk : k + 2 ≤ 1026) (v1 : Int32) : wpX_recvByte (fun r => wpY_recvByte (fun r' => r' = r ∧ i_Rel (k + 2) u v) v v1) u v1 := by
  have J : i_Rel (k + 2) u v := I
  obtain ⟨tc, wr, nx, rm, sh, rp, ir, nw, cw, ss, ct, sa, ms, sr, rv, mr, rx, rr, am, tp, pc, ps, ur, rt, ds, un, tl, ro, lm, ry, hr, dc, bs, re, sd, la, dl, lo, ep, ts, fl, ta, rb, mk, aa, ax, ap, rfl, rfl, hI⟩ := I
  obtain ⟨r, hX, hY⟩ := la_rb (wr := wr) (nx := nx) (tc := tc) (rm := rm) (sh := sh) (rp := rp) (ir := ir) (nw := nw) (cw := cw) (ss := ss) (ct := ct) (sa := sa) (ms := ms) (sr := sr) (rv := rv) (mr := mr) (rx := rx) (rr := rr) (am := am) (tp := tp) (pc := pc) (ps := ps) (ur := ur) (rt := rt) (ds := ds) (un := un) (tl := tl) (ro := ro) (lm := lm) (ry := ry) (hr := hr) (dc := dc) (bs := bs) (re := re) (sd := sd) (la := la) (dl := dl) (lo := lo) (ep := ep) (ts := ts) (fl := fl) (ta := ta) (rb := rb) (mk := mk) (aa := aa) (ax := ax) (ap := ap) v1 hI
  exact hX _ (hY _ ⟨rfl, J⟩)
theorem i_vc_stat {k : Nat} {u : SX} {v : SY} (I : i_Rel k u v) (hk : k + 2 ≤ 1026) (v1 : Int32) : wpX_stat (fun r => wpY_stat (fun r' => r' = r ∧ i_Rel (k + 2) u v) v v1) u v1 := by
  have J : i_Rel (k + 2) u v := I
  obtain ⟨tc, wr, nx, rm, sh, rp, ir, nw, cw, ss, ct, sa, ms, sr, rv, mr, rx, rr, am, tp, pc, ps, ur, rt, ds, un, tl, ro, lm, ry, hr, dc, bs, re, sd, la, dl, lo, ep, ts, fl, ta, rb, mk, aa, ax, ap, rfl, rfl, hI⟩ := I
  obtain ⟨r, hX, hY⟩ := la_st (wr := wr) (nx := nx) (tc := tc) (rm := rm) (sh := sh) (rp := rp) (ir := ir) (nw := nw) (cw := cw) (ss := ss) (ct := ct) (sa := sa) (ms := ms) (sr := sr) (rv := rv) (mr := mr) (rx := rx) (rr := rr) (am := am) (tp := tp) (pc := pc) (ps := ps) (ur := ur) (rt := rt) (ds := ds) (un := un) (tl := tl) (ro := ro) (lm := lm) (ry := ry) (hr := hr) (dc := dc) (bs := bs) (re := re) (sd := sd) (la := la) (dl := dl) (lo := lo) (ep := ep) (ts := ts) (fl := fl) (ta := ta) (rb := rb) (mk := mk) (aa := aa) (ax := ax) (ap := ap) v1 hI
  exact hX _ (hY _ ⟨rfl, J⟩)
end
