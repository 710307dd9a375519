/-! the component: what it only reads -/
section
variable {ir nw cw ss ct sa ms sr rv mr rx rr am tp pc ps ur rt ds un tl ro lm : Int32} {wr nx tc rm sh rp : Nat} {bs re sd la dl lo ep ts fl ta : Nat → Int32} {post : Int32 → Prop} {s : Nat}
theorem xa_out (hs : s < 64) (h : post (rt_b (rt_ou sd dl s))) : wpX_isOutstanding post (ir, nw, cw, ss, ct, sa, nI wr, nI nx, nI tc, ms, sr, rv, mr, rx, rr, nI rm, nI sh, am, tp, pc, ps, ur, nI rp, rt, ds, un, tl, ro, lm, bs, re, sd, la, dl, lo, ep, ts, fl, ta) (nI s) := by
  unfold wpX_isOutstanding
  rw [nI_clamp (by omega : s < 2 ^ 31)]
  refine ⟨rt_in hs, br_c (fun z => ?_) (fun z => ⟨rt_in hs, br_c (fun y => ?_) (fun y => ?_)⟩)⟩
  · rw [rt_ou_a (Int32.not_lt.mpr z)] at h; exact h
  · rw [rt_ou_t (Int32.not_le.mp z) y] at h; exact h
  · rw [rt_ou_b y] at h; exact h
theorem xa_can (hs : s < 64) (h : post (rt_b (rt_ca sd dl lo la rx s))) : wpX_isCandidate post (ir, nw, cw, ss, ct, sa, nI wr, nI nx, nI tc, ms, sr, rv, mr, rx, rr, nI rm, nI sh, am, tp, pc, ps, ur, nI rp, rt, ds, un, tl, ro, lm, bs, re, sd, la, dl, lo, ep, ts, fl, ta) (nI s) := by
  unfold wpX_isCandidate
  rw [nI_clamp (by omega : s < 2 ^ 31)]
  refine xa_out hs (rt_br _ (fun e => ?_) (fun e => ⟨rt_in hs, br_c (fun y => ⟨rt_in hs, br_c (fun w => ?_) (fun w => ?_)⟩) (fun y => ?_)⟩))
  · rw [rt_ca_a e] at h; exact h
  · rw [rt_ca_c (Int32.not_lt.mpr w)] at h; exact h
  · rw [rt_ca_t e y (Int32.not_le.mp w)] at h; exact h
  · rw [rt_ca_b y] at h; exact h
theorem xa_infl_l (hx : nx ≤ 64) (hp : post (nI (rt_cn (rt_fl sd dl lo) nx))) : ∀ d s n, s + d = nx → d < n → wX_inflight_4 post ir nw cw ss ct sa (nI wr) (nI nx) (nI tc) ms sr rv mr rx rr (nI rm) (nI sh) am tp pc ps ur (nI rp) rt ds un tl ro lm bs re sd la dl lo ep ts fl ta n (nI (rt_cn (rt_fl sd dl lo) s)) (nI s) := by
  intro d
  induction d with
  | zero =>
    intro s n h hn
    obtain ⟨m, rfl⟩ : ∃ m, n = m + 1 := ⟨n - 1, by omega⟩
    obtain rfl : s = nx := by omega
    exact br_t (nI_le (Nat.le_refl _) (by omega)) hp
  | succ d ih =>
    intro s n h hn
    obtain ⟨m, rfl⟩ : ∃ m, n = m + 1 := ⟨n - 1, by omega⟩
    have k := ih (s + 1) m (by omega) (by omega)
    refine br_f (nI_ge (by omega) (by omega)) (xa_out (by omega) (rt_br _ (fun e => ?_) (fun e => ⟨rt_in (by omega), rt_bz (by omega) (fun y => ?_) (fun y => ?_)⟩)))
    · rw [rt_cn_f (rt_fl_a e)] at k; exact nm_r (nI_1 s) k
    · rw [rt_cn_t (rt_fl_t e y)] at k; exact nm_r (nI_1 _) (nm_r (nI_1 s) k)
    · rw [rt_cn_f (rt_fl_b y)] at k; exact nm_r (nI_1 s) k
theorem xa_infl (hx : nx ≤ 64) (hp : post (nI (rt_cn (rt_fl sd dl lo) nx))) : wpX_inflight post (ir, nw, cw, ss, ct, sa, nI wr, nI nx, nI tc, ms, sr, rv, mr, rx, rr, nI rm, nI sh, am, tp, pc, ps, ur, nI rp, rt, ds, un, tl, ro, lm, bs, re, sd, la, dl, lo, ep, ts, fl, ta) :=
  ⟨nx + 1, xa_infl_l hx hp nx 0 (nx + 1) (by omega) (by omega)⟩
theorem xa_next_l (hx : nx ≤ 64) (hw : wr ≤ 64) (h1 : ∀ j, j < nx → ¬ lo j = 0 → (∀ i, i < j → lo i = 0) → post (nI j)) (h2 : (∀ i, i < nx → lo i = 0) → wr ≤ nx → post (-1)) (h3 : (∀ i, i < nx → lo i = 0) → nx < wr → post (nI nx)) : ∀ d s n, s + d = nx → d < n → (∀ i, i < s → lo i = 0) → wX_nextToSend_2 post ir nw cw ss ct sa (nI wr) (nI nx) (nI tc) ms sr rv mr rx rr (nI rm) (nI sh) am tp pc ps ur (nI rp) rt ds un tl ro lm bs re sd la dl lo ep ts fl ta n (nI s) := by
  intro d
  induction d with
  | zero =>
    intro s n h hn hz
    obtain ⟨m, rfl⟩ : ∃ m, n = m + 1 := ⟨n - 1, by omega⟩
    obtain rfl : s = nx := by omega
    exact br_t (nI_le (Nat.le_refl _) (by omega)) (pk_le wr s (h2 hz) (h3 hz))
  | succ d ih =>
    intro s n h hn hz
    obtain ⟨m, rfl⟩ : ∃ m, n = m + 1 := ⟨n - 1, by omega⟩
    refine br_f (nI_ge (by omega) (by omega)) ⟨rt_in (by omega), rt_bz (by omega) (fun y => ?_) (fun y => h1 s (by omega) y hz)⟩
    exact nm_r (nI_1 s) (ih (s + 1) m (by omega) (by omega) (lt_s hz y))
theorem xa_next (hx : nx ≤ 64) (hw : wr ≤ 64) (h1 : ∀ j, j < nx → ¬ lo j = 0 → (∀ i, i < j → lo i = 0) → post (nI j)) (h2 : (∀ i, i < nx → lo i = 0) → wr ≤ nx → post (-1)) (h3 : (∀ i, i < nx → lo i = 0) → nx < wr → post (nI nx)) : wpX_nextToSend post (ir, nw, cw, ss, ct, sa, nI wr, nI nx, nI tc, ms, sr, rv, mr, rx, rr, nI rm, nI sh, am, tp, pc, ps, ur, nI rp, rt, ds, un, tl, ro, lm, bs, re, sd, la, dl, lo, ep, ts, fl, ta) :=
  ⟨nx + 1, xa_next_l hx hw h1 h2 h3 nx 0 (nx + 1) (by omega) (by omega) lt_0⟩
theorem xa_lo_l (hx : nx ≤ 64) (h1 : ∀ j, j < nx → rt_ou sd dl j = true → post (nI j)) (h2 : (∀ i, i < nx → rt_ou sd dl i = false) → post (-1)) : ∀ d s n, s + d = nx → d < n → (∀ i, i < s → rt_ou sd dl i = false) → wX_leastOutstanding_2 post ir nw cw ss ct sa (nI wr) (nI nx) (nI tc) ms sr rv mr rx rr (nI rm) (nI sh) am tp pc ps ur (nI rp) rt ds un tl ro lm bs re sd la dl lo ep ts fl ta n (nI s) := by
  intro d
  induction d with
  | zero =>
    intro s n h hn hz
    obtain ⟨m, rfl⟩ : ∃ m, n = m + 1 := ⟨n - 1, by omega⟩
    obtain rfl : s = nx := by omega
    exact br_t (nI_le (Nat.le_refl _) (by omega)) (h2 hz)
  | succ d ih =>
    intro s n h hn hz
    obtain ⟨m, rfl⟩ : ∃ m, n = m + 1 := ⟨n - 1, by omega⟩
    refine br_f (nI_ge (by omega) (by omega)) (xa_out (by omega) (rt_br _ (fun e => ?_) (fun e => h1 s (by omega) e)))
    exact nm_r (nI_1 s) (ih (s + 1) m (by omega) (by omega) (lt_s hz e))
theorem xa_lo (hx : nx ≤ 64) (h1 : ∀ j, j < nx → rt_ou sd dl j = true → post (nI j)) (h2 : (∀ i, i < nx → rt_ou sd dl i = false) → post (-1)) : wpX_leastOutstanding post (ir, nw, cw, ss, ct, sa, nI wr, nI nx, nI tc, ms, sr, rv, mr, rx, rr, nI rm, nI sh, am, tp, pc, ps, ur, nI rp, rt, ds, un, tl, ro, lm, bs, re, sd, la, dl, lo, ep, ts, fl, ta) :=
  ⟨nx + 1, xa_lo_l hx h1 h2 nx 0 (nx + 1) (by omega) (by omega) lt_0⟩
theorem xa_lc_l (hx : nx ≤ 64) (h1 : ∀ j, j < nx → rt_ca sd dl lo la rx j = true → post (nI j)) (h2 : (∀ i, i < nx → rt_ca sd dl lo la rx i = false) → post (-1)) : ∀ d s n, s + d = nx → d < n → (∀ i, i < s → rt_ca sd dl lo la rx i = false) → wX_leastCandidate_2 post ir nw cw ss ct sa (nI wr) (nI nx) (nI tc) ms sr rv mr rx rr (nI rm) (nI sh) am tp pc ps ur (nI rp) rt ds un tl ro lm bs re sd la dl lo ep ts fl ta n (nI s) := by
  intro d
  induction d with
  | zero =>
    intro s n h hn hz
    obtain ⟨m, rfl⟩ : ∃ m, n = m + 1 := ⟨n - 1, by omega⟩
    obtain rfl : s = nx := by omega
    exact br_t (nI_le (Nat.le_refl _) (by omega)) (h2 hz)
  | succ d ih =>
    intro s n h hn hz
    obtain ⟨m, rfl⟩ : ∃ m, n = m + 1 := ⟨n - 1, by omega⟩
    refine br_f (nI_ge (by omega) (by omega)) (xa_can (by omega) (rt_br _ (fun e => ?_) (fun e => h1 s (by omega) e)))
    exact nm_r (nI_1 s) (ih (s + 1) m (by omega) (by omega) (lt_s hz e))
theorem xa_lc (hx : nx ≤ 64) (h1 : ∀ j, j < nx → rt_ca sd dl lo la rx j = true → post (nI j)) (h2 : (∀ i, i < nx → rt_ca sd dl lo la rx i = false) → post (-1)) : wpX_leastCandidate post (ir, nw, cw, ss, ct, sa, nI wr, nI nx, nI tc, ms, sr, rv, mr, rx, rr, nI rm, nI sh, am, tp, pc, ps, ur, nI rp, rt, ds, un, tl, ro, lm, bs, re, sd, la, dl, lo, ep, ts, fl, ta) :=
  ⟨nx + 1, xa_lc_l hx h1 h2 nx 0 (nx + 1) (by omega) (by omega) lt_0⟩
theorem xa_go_l (hx : nx ≤ 64) (hp : post (rt_gl (rt_ou sd dl) nx)) : ∀ d n, d ≤ nx → d < n → rt_gl (rt_ou sd dl) d = rt_gl (rt_ou sd dl) nx → wX_greatestOutstanding_7 post ir nw cw ss ct sa (nI wr) (nI nx) (nI tc) ms sr rv mr rx rr (nI rm) (nI sh) am tp pc ps ur (nI rp) rt ds un tl ro lm bs re sd la dl lo ep ts fl ta n (nI d - 1) := by
  intro d
  induction d with
  | zero =>
    intro n h hn he
    obtain ⟨m, rfl⟩ : ∃ m, n = m + 1 := ⟨n - 1, by omega⟩
    rw [← he] at hp
    exact br_t (by decide) hp
  | succ d ih =>
    intro n h hn he
    obtain ⟨m, rfl⟩ : ∃ m, n = m + 1 := ⟨n - 1, by omega⟩
    rw [nI_pred]
    refine br_f (nI_pos (by omega)) (xa_out (by omega) (rt_br _ (fun e => ?_) (fun e => ?_)))
    · refine nm_r (Int32.add_neg_eq_sub (a := nI d) (b := 1)) (ih m (by omega) (by omega) ?_)
      rw [rt_gl_f e] at he; exact he
    · rw [rt_gl_t e] at he; rw [← he] at hp; exact hp
theorem xa_go (hx : nx ≤ 64) (hp : post (rt_gl (rt_ou sd dl) nx)) : wpX_greatestOutstanding post (ir, nw, cw, ss, ct, sa, nI wr, nI nx, nI tc, ms, sr, rv, mr, rx, rr, nI rm, nI sh, am, tp, pc, ps, ur, nI rp, rt, ds, un, tl, ro, lm, bs, re, sd, la, dl, lo, ep, ts, fl, ta) :=
  nm_e ⟨nx + 1, xa_go_l hx hp nx (nx + 1) (Nat.le_refl _) (by omega) rfl⟩
theorem xa_rw (hp : post (rt_rw ms sr mr rm)) : wpX_reoWnd post (ir, nw, cw, ss, ct, sa, nI wr, nI nx, nI tc, ms, sr, rv, mr, rx, rr, nI rm, nI sh, am, tp, pc, ps, ur, nI rp, rt, ds, un, tl, ro, lm, bs, re, sd, la, dl, lo, ep, ts, fl, ta) :=
  br_c (fun z => by rw [rt_rw_0 z] at hp; exact hp) (fun z => ⟨by decide, nm_e (br_c (fun y => by rw [rt_rw_1 z y] at hp; exact hp) (fun y => by rw [rt_rw_2 z y] at hp; exact hp))⟩)
theorem xa_ld (hl : rt_IL la) (hs : s < 64) (hp : post ((ta (la s).toNatClampNeg + rr) + rt_rw ms sr mr rm)) : wpX_lossDeadline post (ir, nw, cw, ss, ct, sa, nI wr, nI nx, nI tc, ms, sr, rv, mr, rx, rr, nI rm, nI sh, am, tp, pc, ps, ur, nI rp, rt, ds, un, tl, ro, lm, bs, re, sd, la, dl, lo, ep, ts, fl, ta) (nI s) := by
  unfold wpX_lossDeadline
  rw [nI_clamp (by omega : s < 2 ^ 31)]
  exact ⟨rt_in hs, rt_IL_in hl s, xa_rw hp⟩
theorem xa_larger {x y : Int32} (hp : post (rt_mx x y)) : wpX_larger post x y :=
  br_c (fun z => by rw [rt_mx_l z] at hp; exact hp) (fun z => by rw [rt_mx_n z] at hp; exact hp)
theorem xa_clamp {x y z : Int32} (hp : post (rt_cl x y z)) : wpX_clamp post x y z :=
  br_c (fun a => br_c (fun b => by rw [rt_cl_c (Int32.not_lt.mpr a) (Int32.not_lt.mpr b)] at hp; exact hp) (fun b => by rw [rt_cl_b (Int32.not_lt.mpr a) (Int32.not_le.mp b)] at hp; exact hp)) (fun a => by rw [rt_cl_a (Int32.not_le.mp a)] at hp; exact hp)
theorem xa_pto (hp : post (rt_mx (2 * sr) 2)) : wpX_pto post (ir, nw, cw, ss, ct, sa, nI wr, nI nx, nI tc, ms, sr, rv, mr, rx, rr, nI rm, nI sh, am, tp, pc, ps, ur, nI rp, rt, ds, un, tl, ro, lm, bs, re, sd, la, dl, lo, ep, ts, fl, ta) := by
  unfold wpX_pto
  exact xa_larger hp
theorem xa_rto (hp : post (rt_ro ir ms sr rv sh)) : wpX_rto post (ir, nw, cw, ss, ct, sa, nI wr, nI nx, nI tc, ms, sr, rv, mr, rx, rr, nI rm, nI sh, am, tp, pc, ps, ur, nI rp, rt, ds, un, tl, ro, lm, bs, re, sd, la, dl, lo, ep, ts, fl, ta) := by
  refine br_c (fun z => ?_) (fun z => ?_)
  · unfold rt_ro at hp; rw [rt_bb_0 z] at hp; exact xa_clamp hp
  · unfold rt_ro at hp; rw [rt_bb_1 z] at hp; exact xa_larger (nm_e (xa_clamp hp))
theorem xa_ra_l {w : Int32} (hx : nx ≤ 64) (hl : rt_IL la) (hp : post (rt_fo (rt_ou sd dl) (fun s => ta (la s).toNatClampNeg + w) nx).2) : ∀ d s n, s + d = nx → d < n → wX_rtoAt_12 post w ir nw cw ss ct sa (nI wr) (nI nx) (nI tc) ms sr rv mr rx rr (nI rm) (nI sh) am tp pc ps ur (nI rp) rt ds un tl ro lm bs re sd la dl lo ep ts fl ta n (rt_b (rt_fo (rt_ou sd dl) (fun s => ta (la s).toNatClampNeg + w) s).1) (rt_fo (rt_ou sd dl) (fun s => ta (la s).toNatClampNeg + w) s).2 (nI s) := by
  intro d
  induction d with
  | zero =>
    intro s n h hn
    obtain ⟨m, rfl⟩ : ∃ m, n = m + 1 := ⟨n - 1, by omega⟩
    obtain rfl : s = nx := by omega
    exact br_t (nI_le (Nat.le_refl _) (by omega)) hp
  | succ d ih =>
    intro s n h hn
    obtain ⟨m, rfl⟩ : ∃ m, n = m + 1 := ⟨n - 1, by omega⟩
    have k := ih (s + 1) m (by omega) (by omega)
    refine br_f (nI_ge (by omega) (by omega)) (xa_out (by omega) (rt_br _ (fun e => ?_) (fun e => ⟨rt_in (by omega), by rw [rt_cp (by omega)]; exact rt_IL_in hl s, nm_r (e' := ta (la s).toNatClampNeg + w) (by rw [rt_cp (by omega)]) (rt_br _ (fun y => ?_) (fun y => br_c (fun z => ?_) (fun z => ?_)))⟩)))
    · rw [rt_fo_f e] at k; exact nm_r (nI_1 s) k
    · rw [rt_fo_a e y] at k; exact nm_r (nI_1 s) k
    · rw [rt_fo_b e y z] at k; exact nm_r (nI_1 s) k
    · rw [rt_fo_c e z] at k; exact nm_r (nI_1 s) k
theorem xa_ra (hx : nx ≤ 64) (hl : rt_IL la) (hp : post (rt_fo (rt_ou sd dl) (fun s => ta (la s).toNatClampNeg + rt_ro ir ms sr rv sh) nx).2) : wpX_rtoAt post (ir, nw, cw, ss, ct, sa, nI wr, nI nx, nI tc, ms, sr, rv, mr, rx, rr, nI rm, nI sh, am, tp, pc, ps, ur, nI rp, rt, ds, un, tl, ro, lm, bs, re, sd, la, dl, lo, ep, ts, fl, ta) := by
  unfold wpX_rtoAt
  exact xa_rto ⟨nx + 1, xa_ra_l hx hl hp nx 0 (nx + 1) (by omega) (by omega)⟩
theorem xa_re_l (hx : nx ≤ 64) (hl : rt_IL la) (hp : post (rt_fo (rt_ca sd dl lo la rx) (fun s => (ta (la s).toNatClampNeg + rr) + rt_rw ms sr mr rm) nx).2) : ∀ d s n, s + d = nx → d < n → wX_reoAt_6 post ir nw cw ss ct sa (nI wr) (nI nx) (nI tc) ms sr rv mr rx rr (nI rm) (nI sh) am tp pc ps ur (nI rp) rt ds un tl ro lm bs re sd la dl lo ep ts fl ta n (rt_b (rt_fo (rt_ca sd dl lo la rx) (fun s => (ta (la s).toNatClampNeg + rr) + rt_rw ms sr mr rm) s).1) (rt_fo (rt_ca sd dl lo la rx) (fun s => (ta (la s).toNatClampNeg + rr) + rt_rw ms sr mr rm) s).2 (nI s) := by
  intro d
  induction d with
  | zero =>
    intro s n h hn
    obtain ⟨m, rfl⟩ : ∃ m, n = m + 1 := ⟨n - 1, by omega⟩
    obtain rfl : s = nx := by omega
    exact br_t (nI_le (Nat.le_refl _) (by omega)) hp
  | succ d ih =>
    intro s n h hn
    obtain ⟨m, rfl⟩ : ∃ m, n = m + 1 := ⟨n - 1, by omega⟩
    have k := ih (s + 1) m (by omega) (by omega)
    refine br_f (nI_ge (by omega) (by omega)) (xa_can (by omega) (rt_br _ (fun e => ?_) (fun e => xa_ld hl (by omega) (rt_br _ (fun y => ?_) (fun y => br_c (fun z => ?_) (fun z => ?_))))))
    · rw [rt_fo_f e] at k; exact nm_r (nI_1 s) k
    · rw [rt_fo_a e y] at k; exact nm_r (nI_1 s) k
    · rw [rt_fo_b e y z] at k; exact nm_r (nI_1 s) k
    · rw [rt_fo_c e z] at k; exact nm_r (nI_1 s) k
theorem xa_re (hx : nx ≤ 64) (hl : rt_IL la) (hp : post (rt_fo (rt_ca sd dl lo la rx) (fun s => (ta (la s).toNatClampNeg + rr) + rt_rw ms sr mr rm) nx).2) : wpX_reoAt post (ir, nw, cw, ss, ct, sa, nI wr, nI nx, nI tc, ms, sr, rv, mr, rx, rr, nI rm, nI sh, am, tp, pc, ps, ur, nI rp, rt, ds, un, tl, ro, lm, bs, re, sd, la, dl, lo, ep, ts, fl, ta) :=
  ⟨nx + 1, xa_re_l hx hl hp nx 0 (nx + 1) (by omega) (by omega)⟩
theorem xa_db_l {b : Nat} (hb : b ≤ 64) (hp : post (nI (rt_cn (rt_nz dl) b))) : ∀ d s n, s + d = b → d < n → wX_deliveredBelow_4 post (nI b) ir nw cw ss ct sa (nI wr) (nI nx) (nI tc) ms sr rv mr rx rr (nI rm) (nI sh) am tp pc ps ur (nI rp) rt ds un tl ro lm bs re sd la dl lo ep ts fl ta n (nI (rt_cn (rt_nz dl) s)) (nI s) := by
  intro d
  induction d with
  | zero =>
    intro s n h hn
    obtain ⟨m, rfl⟩ : ∃ m, n = m + 1 := ⟨n - 1, by omega⟩
    obtain rfl : s = b := by omega
    exact br_t (nI_le (Nat.le_refl _) (by omega)) hp
  | succ d ih =>
    intro s n h hn
    obtain ⟨m, rfl⟩ : ∃ m, n = m + 1 := ⟨n - 1, by omega⟩
    have k := ih (s + 1) m (by omega) (by omega)
    refine br_f (nI_ge (by omega) (by omega)) (br_f (rt_64 s (by omega)) ⟨rt_in (by omega), rt_bz (by omega) (fun y => ?_) (fun y => ?_)⟩)
    · rw [rt_cn_f (rt_nz_f y)] at k; exact nm_r (nI_1 s) k
    · rw [rt_cn_t (rt_nz_t y)] at k; exact nm_r (nI_1 _) (nm_r (nI_1 s) k)
theorem xa_db {b : Nat} (hb : b ≤ 64) (hp : post (nI (rt_cn (rt_nz dl) b))) : wpX_deliveredBelow post (ir, nw, cw, ss, ct, sa, nI wr, nI nx, nI tc, ms, sr, rv, mr, rx, rr, nI rm, nI sh, am, tp, pc, ps, ur, nI rp, rt, ds, un, tl, ro, lm, bs, re, sd, la, dl, lo, ep, ts, fl, ta) (nI b) :=
  ⟨b + 1, xa_db_l hb hp b 0 (b + 1) (by omega) (by omega)⟩
end
