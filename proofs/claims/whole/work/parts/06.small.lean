/-! episodes, undo, samples, growth: each alone; then the detection of losses in lockstep -/
section
variable {ir nw cw ss ct sa ms sr rv mr rx rr am tp pc ps ur rt ds un tl ro lm : Int32} {wr nx tc rm sh rp : Nat} {bs re sd la dl lo ep ts fl ta : Nat → Int32} {ry hr dc : Int32} {rb mk aa ax ap : Nat → Int32}
theorem xc_be_l {P : SX → Prop} (hp : P (ir, nw, cw, ss, ct, sa, nI wr, nI nx, nI tc, ms, sr, rv, mr, rx, rr, nI rm, nI sh, am, tp, pc, ps, ur, nI rp, rt, ds, un, tl, ro, lm, bs, re, sd, la, dl, lo, rt_zr ep 64, ts, fl, ta)) : ∀ d s, s + d = 64 → wX_beginEpisode_23 P ir nw cw ss ct sa (nI wr) (nI nx) (nI tc) ms sr rv mr rx rr (nI rm) (nI sh) am tp pc ps ur (nI rp) rt ds un tl ro lm (d + 1) (nI s) bs re sd la dl lo (rt_zr ep s) ts fl ta := by
  intro d
  induction d with
  | zero =>
    intro s h
    obtain rfl : s = 64 := by omega
    exact br_t rt_64e hp
  | succ d ih =>
    intro s h
    exact br_f (rt_64 s (by omega)) ⟨rt_in (by omega), nm_r (e' := rt_zr ep (s + 1)) (by rw [rt_ua (by omega)]; rfl) (nm_r (nI_1 s) (ih (s + 1) (by omega)))⟩
theorem xc_be {P : SX → Prop} (hp : P (ir, nw, cw, ss, ct, sa, nI wr, nI nx, nI tc, ms, sr, rv, mr, rx, rr, nI rm, nI sh, am, tp, cw, ss, 0, nI rp, rt, ds, un, tl, ro, lm, bs, re, sd, la, dl, lo, rt_zr ep 64, ts, fl, ta)) : wpX_beginEpisode P (ir, nw, cw, ss, ct, sa, nI wr, nI nx, nI tc, ms, sr, rv, mr, rx, rr, nI rm, nI sh, am, tp, pc, ps, ur, nI rp, rt, ds, un, tl, ro, lm, bs, re, sd, la, dl, lo, ep, ts, fl, ta) :=
  ⟨65, xc_be_l (pc := cw) (ps := ss) (ur := 0) hp 64 0 (by omega)⟩
theorem yc_be_l {P : SY → Prop} (hp : P (ir, nI wr, nI tc, nw, cw, ss, ct, sa, nI nx, sr, rv, mr, ry, rr, nI rm, nI sh, am, pc, ps, ur, nI rp, rt, ds, un, tl, ro, lm, dc, ms, ms, hr, tp, bs, rb, re, sd, la, dl, lo, rt_zr ep 64, mk, ts, ta, aa, ax, ap)) : ∀ d s, s + d = 64 → wY_episode_23 P ir (nI wr) (nI tc) nw cw ss ct sa (nI nx) sr rv mr ry rr (nI rm) (nI sh) am pc ps ur (nI rp) rt ds un tl ro lm dc ms ms hr tp (d + 1) (nI s) bs rb re sd la dl lo (rt_zr ep s) mk ts ta aa ax ap := by
  intro d
  induction d with
  | zero =>
    intro s h
    obtain rfl : s = 64 := by omega
    exact br_t rt_64e hp
  | succ d ih =>
    intro s h
    exact br_f (rt_64 s (by omega)) ⟨rt_in (by omega), nm_r (e' := rt_zr ep (s + 1)) (by rw [rt_ua (by omega)]; rfl) (nm_r (nI_1 s) (ih (s + 1) (by omega)))⟩
theorem yc_be {P : SY → Prop} (hp : P (ir, nI wr, nI tc, nw, cw, ss, ct, sa, nI nx, sr, rv, mr, ry, rr, nI rm, nI sh, am, cw, ss, 0, nI rp, rt, ds, un, tl, ro, lm, dc, ms, ms, hr, tp, bs, rb, re, sd, la, dl, lo, rt_zr ep 64, mk, ts, ta, aa, ax, ap)) : wpY_episode P (ir, nI wr, nI tc, nw, cw, ss, ct, sa, nI nx, sr, rv, mr, ry, rr, nI rm, nI sh, am, pc, ps, ur, nI rp, rt, ds, un, tl, ro, lm, dc, ms, ms, hr, tp, bs, rb, re, sd, la, dl, lo, ep, mk, ts, ta, aa, ax, ap) :=
  ⟨65, yc_be_l (pc := cw) (ps := ss) (ur := 0) hp 64 0 (by omega)⟩
theorem xc_un_l {P : SX → Prop} (hp : P (ir, nw, cw, ss, ct, sa, nI wr, nI nx, nI tc, ms, sr, rv, mr, rx, rr, nI rm, nI sh, am, tp, pc, ps, ur, nI rp, rt, ds, un + 1, tl, ro, lm, bs, re, sd, la, dl, rt_zr lo 64, ep, ts, fl, ta)) : ∀ d s, s + d = 64 → wX_undo_42 P ir nw cw ss ct sa (nI wr) (nI nx) (nI tc) ms sr rv mr rx rr (nI rm) (nI sh) am tp pc ps ur (nI rp) rt ds un tl ro lm (d + 1) (nI s) bs re sd la dl (rt_zr lo s) ep ts fl ta := by
  intro d
  induction d with
  | zero =>
    intro s h
    obtain rfl : s = 64 := by omega
    exact br_t rt_64e (nm_e hp)
  | succ d ih =>
    intro s h
    exact br_f (rt_64 s (by omega)) ⟨rt_in (by omega), nm_r (e' := rt_zr lo (s + 1)) (by rw [rt_ua (by omega), rt_n0]; rfl) (nm_r (nI_1 s) (ih (s + 1) (by omega)))⟩
theorem xc_un {P : SX → Prop} (hp : P (ir, nw, rt_mx cw pc, rt_mx ss ps, 0, 0, nI wr, nI nx, nI tc, ms, sr, rv, mr, rx, rr, nI rm, nI sh, am, tp, pc, ps, ur, nI rp, rt, ds, un + 1, tl, ro, lm, bs, re, sd, la, dl, rt_zr lo 64, ep, ts, fl, ta)) : wpX_undo P (ir, nw, cw, ss, ct, sa, nI wr, nI nx, nI tc, ms, sr, rv, mr, rx, rr, nI rm, nI sh, am, tp, pc, ps, ur, nI rp, rt, ds, un, tl, ro, lm, bs, re, sd, la, dl, lo, ep, ts, fl, ta) := by
  unfold wpX_undo
  refine xa_larger ?_
  refine xa_larger ?_
  exact ⟨65, xc_un_l (cw := rt_mx cw pc) (ss := rt_mx ss ps) (ct := 0) (sa := 0) hp 64 0 (by omega)⟩
theorem yc_un_l {P : SY → Prop} (hp : P (ir, nI wr, nI tc, nw, cw, ss, ct, sa, nI nx, sr, rv, mr, ry, rr, nI rm, nI sh, am, pc, ps, ur, nI rp, rt, ds, un, tl, ro, lm, dc, ms, ms, hr, tp, bs, rb, re, sd, la, dl, rt_zr lo 64, ep, mk, ts, ta, aa, ax, ap)) : ∀ d s, s + d = 64 → wY_undo_60 P ir (nI wr) (nI tc) nw cw ss ct sa (nI nx) sr rv mr ry rr (nI rm) (nI sh) am pc ps ur (nI rp) rt ds un tl ro lm dc ms ms hr tp (d + 1) (nI s) bs rb re sd la dl (rt_zr lo s) ep mk ts ta aa ax ap := by
  intro d
  induction d with
  | zero =>
    intro s h
    obtain rfl : s = 64 := by omega
    exact br_t rt_64e hp
  | succ d ih =>
    intro s h
    exact br_f (rt_64 s (by omega)) ⟨rt_in (by omega), nm_r (e' := rt_zr lo (s + 1)) (by rw [rt_ua (by omega), rt_n0]; rfl) (nm_r (nI_1 s) (ih (s + 1) (by omega)))⟩
theorem yc_un2 {P : SY → Prop} (hp : P (ir, nI wr, nI tc, nw, cw, rt_mx ss ps, 0, 0, nI nx, sr, rv, mr, ry, rr, nI rm, nI sh, am, pc, ps, ur, nI rp, rt, ds, un + 1, tl, ro, lm, dc, ms, ms, hr, tp, bs, rb, re, sd, la, dl, rt_zr lo 64, ep, mk, ts, ta, aa, ax, ap)) : wY_undo_19 P ir (nI wr) (nI tc) nw cw ss ct sa (nI nx) sr rv mr ry rr (nI rm) (nI sh) am pc ps ur (nI rp) rt ds un tl ro lm dc ms ms hr tp bs rb re sd la dl lo ep mk ts ta aa ax ap := by
  refine br_c (fun z => ?_) (fun z => ?_)
  · rw [rt_mx_g z] at hp
    exact nm_e ⟨65, yc_un_l (ct := 0) (sa := 0) (un := un + 1) hp 64 0 (by omega)⟩
  · rw [rt_mx_l (rt_nle z)] at hp
    exact nm_e ⟨65, yc_un_l (ss := ps) (ct := 0) (sa := 0) (un := un + 1) hp 64 0 (by omega)⟩
theorem yc_un {P : SY → Prop} (hp : P (ir, nI wr, nI tc, nw, rt_mx cw pc, rt_mx ss ps, 0, 0, nI nx, sr, rv, mr, ry, rr, nI rm, nI sh, am, pc, ps, ur, nI rp, rt, ds, un + 1, tl, ro, lm, dc, ms, ms, hr, tp, bs, rb, re, sd, la, dl, rt_zr lo 64, ep, mk, ts, ta, aa, ax, ap)) : wpY_undo P (ir, nI wr, nI tc, nw, cw, ss, ct, sa, nI nx, sr, rv, mr, ry, rr, nI rm, nI sh, am, pc, ps, ur, nI rp, rt, ds, un, tl, ro, lm, dc, ms, ms, hr, tp, bs, rb, re, sd, la, dl, lo, ep, mk, ts, ta, aa, ax, ap) := by
  refine br_c (fun z => ?_) (fun z => ?_)
  · rw [rt_mx_g z] at hp
    exact yc_un2 hp
  · rw [rt_mx_l (rt_nle z)] at hp
    exact yc_un2 (cw := pc) hp
theorem lc_sm (r : Int32) : ∃ ms' sr' rv' mr' : Int32, (∀ P : SX → Prop, P (ir, nw, cw, ss, ct, sa, nI wr, nI nx, nI tc, ms', sr', rv', mr', rx, rr, nI rm, nI sh, am, tp, pc, ps, ur, nI rp, rt, ds, un, tl, ro, lm, bs, re, sd, la, dl, lo, ep, ts, fl, ta) → wpX_sample P (ir, nw, cw, ss, ct, sa, nI wr, nI nx, nI tc, ms, sr, rv, mr, rx, rr, nI rm, nI sh, am, tp, pc, ps, ur, nI rp, rt, ds, un, tl, ro, lm, bs, re, sd, la, dl, lo, ep, ts, fl, ta) r) ∧ (∀ P : SY → Prop, P (ir, nI wr, nI tc, nw, cw, ss, ct, sa, nI nx, sr', rv', mr', ry, rr, nI rm, nI sh, am, pc, ps, ur, nI rp, rt, ds, un, tl, ro, lm, dc, ms', ms', hr, tp, bs, rb, re, sd, la, dl, lo, ep, mk, ts, ta, aa, ax, ap) → wpY_sample P (ir, nI wr, nI tc, nw, cw, ss, ct, sa, nI nx, sr, rv, mr, ry, rr, nI rm, nI sh, am, pc, ps, ur, nI rp, rt, ds, un, tl, ro, lm, dc, ms, ms, hr, tp, bs, rb, re, sd, la, dl, lo, ep, mk, ts, ta, aa, ax, ap) r) := by
  by_cases m0 : ms = 0
  · exact ⟨1, r, r / 2, r, fun P hp => br_t m0 ⟨by decide, nm_e hp⟩, fun P hp => br_t m0 ⟨by decide, nm_e hp⟩⟩
  · by_cases g : 0 ≤ sr - r
    · by_cases m1 : mr ≤ r
      · exact ⟨ms, ((7 * sr) + r) / 8, ((3 * rv) + (sr - r)) / 4, mr, fun P hp => br_f m0 (nm_e (br_t g ⟨by decide, nm_e ⟨by decide, nm_e (br_t m1 hp)⟩⟩)), fun P hp => br_f m0 (nm_e (br_t g ⟨by decide, nm_e ⟨by decide, nm_e (br_t m1 hp)⟩⟩))⟩
      · exact ⟨ms, ((7 * sr) + r) / 8, ((3 * rv) + (sr - r)) / 4, r, fun P hp => br_f m0 (nm_e (br_t g ⟨by decide, nm_e ⟨by decide, nm_e (br_f m1 hp)⟩⟩)), fun P hp => br_f m0 (nm_e (br_t g ⟨by decide, nm_e ⟨by decide, nm_e (br_f m1 hp)⟩⟩))⟩
    · by_cases m1 : mr ≤ r
      · exact ⟨ms, ((7 * sr) + r) / 8, ((3 * rv) + (-(sr - r))) / 4, mr, fun P hp => br_f m0 (nm_e (br_f g ⟨by decide, nm_e ⟨by decide, nm_e (br_t m1 hp)⟩⟩)), fun P hp => br_f m0 (nm_e (br_f g (nm_e ⟨by decide, nm_e ⟨by decide, nm_e (br_t m1 hp)⟩⟩)))⟩
      · exact ⟨ms, ((7 * sr) + r) / 8, ((3 * rv) + (-(sr - r))) / 4, r, fun P hp => br_f m0 (nm_e (br_f g ⟨by decide, nm_e ⟨by decide, nm_e (br_f m1 hp)⟩⟩)), fun P hp => br_f m0 (nm_e (br_f g (nm_e ⟨by decide, nm_e ⟨by decide, nm_e (br_f m1 hp)⟩⟩)))⟩
theorem lc_gw {c1 t1 : Int32} : ∃ cw' : Int32, (∀ P : SX → Prop, P (ir, nw, cw', ss, t1, sa, nI wr, nI nx, nI tc, ms, sr, rv, mr, rx, rr, nI rm, nI sh, am, tp, pc, ps, ur, nI rp, rt, ds, un, tl, ro, lm, bs, re, sd, la, dl, lo, ep, ts, fl, ta) → wX_grow_69 P ir nw c1 ss t1 sa (nI wr) (nI nx) (nI tc) ms sr rv mr rx rr (nI rm) (nI sh) am tp pc ps ur (nI rp) rt ds un tl ro lm bs re sd la dl lo ep ts fl ta) ∧ (∀ P : SY → Prop, P (ir, nI wr, nI tc, nw, cw', ss, t1, sa, nI nx, sr, rv, mr, ry, rr, nI rm, nI sh, am, pc, ps, ur, nI rp, rt, ds, un, tl, ro, lm, dc, ms, ms, hr, tp, bs, rb, re, sd, la, dl, lo, ep, mk, ts, ta, aa, ax, ap) → wY_grow_69 P ir (nI wr) (nI tc) nw c1 ss t1 sa (nI nx) sr rv mr ry rr (nI rm) (nI sh) am pc ps ur (nI rp) rt ds un tl ro lm dc ms ms hr tp bs rb re sd la dl lo ep mk ts ta aa ax ap) := by
  by_cases z : c1 ≤ 32
  · exact ⟨c1, fun P hp => br_t z hp, fun P hp => br_t z hp⟩
  · exact ⟨32, fun P hp => br_f z hp, fun P hp => br_f z hp⟩
theorem lc_gr : ∃ cw' ct' : Int32, (∀ P : SX → Prop, P (ir, nw, cw', ss, ct', sa, nI wr, nI nx, nI tc, ms, sr, rv, mr, rx, rr, nI rm, nI sh, am, tp, pc, ps, ur, nI rp, rt, ds, un, tl, ro, lm, bs, re, sd, la, dl, lo, ep, ts, fl, ta) → wpX_grow P (ir, nw, cw, ss, ct, sa, nI wr, nI nx, nI tc, ms, sr, rv, mr, rx, rr, nI rm, nI sh, am, tp, pc, ps, ur, nI rp, rt, ds, un, tl, ro, lm, bs, re, sd, la, dl, lo, ep, ts, fl, ta)) ∧ (∀ P : SY → Prop, P (ir, nI wr, nI tc, nw, cw', ss, ct', sa, nI nx, sr, rv, mr, ry, rr, nI rm, nI sh, am, pc, ps, ur, nI rp, rt, ds, un, tl, ro, lm, dc, ms, ms, hr, tp, bs, rb, re, sd, la, dl, lo, ep, mk, ts, ta, aa, ax, ap) → wpY_grow P (ir, nI wr, nI tc, nw, cw, ss, ct, sa, nI nx, sr, rv, mr, ry, rr, nI rm, nI sh, am, pc, ps, ur, nI rp, rt, ds, un, tl, ro, lm, dc, ms, ms, hr, tp, bs, rb, re, sd, la, dl, lo, ep, mk, ts, ta, aa, ax, ap)) := by
  by_cases s1 : sa = 1
  · exact ⟨cw, ct, fun P hp => br_t s1 hp, fun P hp => br_t s1 hp⟩
  · by_cases z : ss ≤ cw
    · by_cases y : ct + 1 < cw
      · obtain ⟨c', hX, hY⟩ := lc_gw (ir := ir) (nw := nw) (ss := ss) (sa := sa) (ms := ms) (sr := sr) (rv := rv) (mr := mr) (rx := rx) (rr := rr) (am := am) (tp := tp) (pc := pc) (ps := ps) (ur := ur) (rt := rt) (ds := ds) (un := un) (tl := tl) (ro := ro) (lm := lm) (wr := wr) (nx := nx) (tc := tc) (rm := rm) (sh := sh) (rp := rp) (bs := bs) (re := re) (sd := sd) (la := la) (dl := dl) (lo := lo) (ep := ep) (ts := ts) (fl := fl) (ta := ta) (ry := ry) (hr := hr) (dc := dc) (rb := rb) (mk := mk) (aa := aa) (ax := ax) (ap := ap) (c1 := cw) (t1 := ct + 1)
        exact ⟨c', _, fun P hp => br_f s1 (br_t z (nm_e (br_t y (hX P hp)))), fun P hp => br_f s1 (br_t z (nm_e (br_t y (hY P hp))))⟩
      · obtain ⟨c', hX, hY⟩ := lc_gw (ir := ir) (nw := nw) (ss := ss) (sa := sa) (ms := ms) (sr := sr) (rv := rv) (mr := mr) (rx := rx) (rr := rr) (am := am) (tp := tp) (pc := pc) (ps := ps) (ur := ur) (rt := rt) (ds := ds) (un := un) (tl := tl) (ro := ro) (lm := lm) (wr := wr) (nx := nx) (tc := tc) (rm := rm) (sh := sh) (rp := rp) (bs := bs) (re := re) (sd := sd) (la := la) (dl := dl) (lo := lo) (ep := ep) (ts := ts) (fl := fl) (ta := ta) (ry := ry) (hr := hr) (dc := dc) (rb := rb) (mk := mk) (aa := aa) (ax := ax) (ap := ap) (c1 := cw + 1) (t1 := 0)
        exact ⟨c', _, fun P hp => br_f s1 (br_t z (nm_e (br_f y (nm_e (hX P hp))))), fun P hp => br_f s1 (br_t z (nm_e (br_f y (nm_e (hY P hp)))))⟩
    · obtain ⟨c', hX, hY⟩ := lc_gw (ir := ir) (nw := nw) (ss := ss) (sa := sa) (ms := ms) (sr := sr) (rv := rv) (mr := mr) (rx := rx) (rr := rr) (am := am) (tp := tp) (pc := pc) (ps := ps) (ur := ur) (rt := rt) (ds := ds) (un := un) (tl := tl) (ro := ro) (lm := lm) (wr := wr) (nx := nx) (tc := tc) (rm := rm) (sh := sh) (rp := rp) (bs := bs) (re := re) (sd := sd) (la := la) (dl := dl) (lo := lo) (ep := ep) (ts := ts) (fl := fl) (ta := ta) (ry := ry) (hr := hr) (dc := dc) (rb := rb) (mk := mk) (aa := aa) (ax := ax) (ap := ap) (c1 := cw + 1) (t1 := ct)
      exact ⟨c', _, fun P hp => br_f s1 (br_f z (nm_e (hX P hp))), fun P hp => br_f s1 (br_f z (nm_e (hY P hp)))⟩
/-! detection -/
def rt_dt (c : Nat → Bool) (d : Nat → Int32) (nw : Int32) (s : Nat) : Bool := c s && decide (¬ nw < d s)
theorem rt_dt_a {c : Nat → Bool} {d : Nat → Int32} {nw : Int32} {s : Nat} (h : c s = false) : rt_dt c d nw s = false := by
  unfold rt_dt; rw [h]; rfl
theorem rt_dt_b {c : Nat → Bool} {d : Nat → Int32} {nw : Int32} {s : Nat} (h : nw < d s) : rt_dt c d nw s = false := by
  unfold rt_dt; rw [decide_eq_false (fun z => z h), Bool.and_false]
theorem rt_dt_t {c : Nat → Bool} {d : Nat → Int32} {nw : Int32} {s : Nat} (h : c s = true) (g : ¬ nw < d s) : rt_dt c d nw s = true := by
  unfold rt_dt; rw [h, decide_eq_true g]; rfl
theorem rt_ca_mk {sd dl lo la : Nat → Int32} {rx : Int32} {c : Nat → Bool} (s : Nat) : rt_ca sd dl (rt_mk c lo s) la rx s = rt_ca sd dl lo la rx s := by
  unfold rt_ca; rw [rt_mk_ge s s (Nat.le_refl s)]
theorem rt_lm (lm : Int32) (c : Nat) : lm + nI c + 1 = lm + nI (c + 1) := by rw [Int32.add_assoc, nI_1]
theorem xc_dt_l {P : SX → Prop} (hx : nx ≤ 64) (hL : rt_IL la) (hp : ∀ n, wX_detectLosses_4 P ir nw cw ss ct sa (nI wr) (nI nx) (nI tc) ms sr rv mr rx rr (nI rm) (nI sh) am tp pc ps ur (nI rp) rt ds un tl ro (n + 1) (rt_b (decide (0 < rt_cn (rt_dt (rt_ca sd dl lo la rx) (fun s => (ta (la s).toNatClampNeg + rr) + rt_rw ms sr mr rm) nw) nx))) (nI nx) (lm + nI (rt_cn (rt_dt (rt_ca sd dl lo la rx) (fun s => (ta (la s).toNatClampNeg + rr) + rt_rw ms sr mr rm) nw) nx)) bs re sd la dl (rt_mk (rt_dt (rt_ca sd dl lo la rx) (fun s => (ta (la s).toNatClampNeg + rr) + rt_rw ms sr mr rm) nw) lo nx) ep ts fl ta) : ∀ d s, s + d = nx → wX_detectLosses_4 P ir nw cw ss ct sa (nI wr) (nI nx) (nI tc) ms sr rv mr rx rr (nI rm) (nI sh) am tp pc ps ur (nI rp) rt ds un tl ro (d + 1) (rt_b (decide (0 < rt_cn (rt_dt (rt_ca sd dl lo la rx) (fun s => (ta (la s).toNatClampNeg + rr) + rt_rw ms sr mr rm) nw) s))) (nI s) (lm + nI (rt_cn (rt_dt (rt_ca sd dl lo la rx) (fun s => (ta (la s).toNatClampNeg + rr) + rt_rw ms sr mr rm) nw) s)) bs re sd la dl (rt_mk (rt_dt (rt_ca sd dl lo la rx) (fun s => (ta (la s).toNatClampNeg + rr) + rt_rw ms sr mr rm) nw) lo s) ep ts fl ta := by
  intro d
  induction d with
  | zero =>
    intro s h
    obtain rfl : s = nx := by omega
    exact hp 0
  | succ d ih =>
    intro s h
    have k := ih (s + 1) (by omega)
    refine br_f (nI_ge (by omega) (by omega)) (xa_can (by omega) (rt_br _ (fun e => ?_) (fun e => xa_ld hL (by omega) (br_c (fun y => ?_) (fun y => ⟨rt_in (by omega), nm_r (e' := rt_mk (rt_dt (rt_ca sd dl lo la rx) (fun s => (ta (la s).toNatClampNeg + rr) + rt_rw ms sr mr rm) nw) lo (s + 1)) ?_ (nm_r (e' := lm + nI (rt_cn (rt_dt (rt_ca sd dl lo la rx) (fun s => (ta (la s).toNatClampNeg + rr) + rt_rw ms sr mr rm) nw) (s + 1))) ?_ (nm_r (nI_1 s) ?_))⟩)))))
    · rw [rt_ca_mk] at e
      rw [rt_cn_f (rt_dt_a e), rt_mk_f (rt_dt_a e)] at k; exact nm_r (nI_1 s) k
    · have g : (rt_dt (rt_ca sd dl lo la rx) (fun s => (ta (la s).toNatClampNeg + rr) + rt_rw ms sr mr rm) nw) s = false := rt_dt_b y
      rw [rt_cn_f g, rt_mk_f g] at k; exact nm_r (nI_1 s) k
    · rw [rt_ca_mk] at e
      have g : (rt_dt (rt_ca sd dl lo la rx) (fun s => (ta (la s).toNatClampNeg + rr) + rt_rw ms sr mr rm) nw) s = true := rt_dt_t e y
      rw [rt_mk_t g, rt_ua (by omega), rt_n1]
    · rw [rt_ca_mk] at e
      have g : (rt_dt (rt_ca sd dl lo la rx) (fun s => (ta (la s).toNatClampNeg + rr) + rt_rw ms sr mr rm) nw) s = true := rt_dt_t e y
      rw [rt_cn_t g, rt_lm]
    · rw [rt_ca_mk] at e
      have g : (rt_dt (rt_ca sd dl lo la rx) (fun s => (ta (la s).toNatClampNeg + rr) + rt_rw ms sr mr rm) nw) s = true := rt_dt_t e y
      have f : rt_b (decide (0 < rt_cn (rt_dt (rt_ca sd dl lo la rx) (fun s => (ta (la s).toNatClampNeg + rr) + rt_rw ms sr mr rm) nw) (s + 1))) = 1 := by rw [rt_cn_t g, decide_eq_true (Nat.succ_pos _)]; rfl
      rw [f] at k; exact k
theorem yc_dt_a {P : SY → Prop} (hL : rt_IL la) (hK : rt_IK rx ry hr) (hp : ∀ n, wY_detect_9 P (rt_rw ms sr mr rm) 0 ir (nI wr) (nI tc) nw cw ss ct sa (nI nx) sr rv mr ry rr (nI rm) (nI sh) am pc ps ur (nI rp) rt ds un tl ro lm dc ms ms hr tp (n + 1) (nI 64) bs rb re sd la dl lo ep (rt_st (rt_dt (rt_ca sd dl lo la rx) (fun s => (ta (la s).toNatClampNeg + rr) + rt_rw ms sr mr rm) nw) mk 64) ts ta aa ax ap) : ∀ d s, s + d = 64 → wY_detect_9 P (rt_rw ms sr mr rm) 0 ir (nI wr) (nI tc) nw cw ss ct sa (nI nx) sr rv mr ry rr (nI rm) (nI sh) am pc ps ur (nI rp) rt ds un tl ro lm dc ms ms hr tp (d + 1) (nI s) bs rb re sd la dl lo ep (rt_st (rt_dt (rt_ca sd dl lo la rx) (fun s => (ta (la s).toNatClampNeg + rr) + rt_rw ms sr mr rm) nw) mk s) ts ta aa ax ap := by
  intro d
  induction d with
  | zero =>
    intro s h
    obtain rfl : s = 64 := by omega
    exact hp 0
  | succ d ih =>
    intro s h
    have k := ih (s + 1) (by omega)
    have m0 : ∀ {x : Int32}, (rt_dt (rt_ca sd dl lo la rx) (fun s => (ta (la s).toNatClampNeg + rr) + rt_rw ms sr mr rm) nw) s = false → x = 0 → upd (rt_st (rt_dt (rt_ca sd dl lo la rx) (fun s => (ta (la s).toNatClampNeg + rr) + rt_rw ms sr mr rm) nw) mk s) (nI s).toNatClampNeg x = rt_st (rt_dt (rt_ca sd dl lo la rx) (fun s => (ta (la s).toNatClampNeg + rr) + rt_rw ms sr mr rm) nw) mk (s + 1) := by
      intro x g e
      rw [rt_ua (by omega), e]
      show _ = upd (rt_st (rt_dt (rt_ca sd dl lo la rx) (fun s => (ta (la s).toNatClampNeg + rr) + rt_rw ms sr mr rm) nw) mk s) s (rt_b ((rt_dt (rt_ca sd dl lo la rx) (fun s => (ta (la s).toNatClampNeg + rr) + rt_rw ms sr mr rm) nw) s))
      rw [g]; rfl
    have m1 : ∀ {x : Int32}, (rt_dt (rt_ca sd dl lo la rx) (fun s => (ta (la s).toNatClampNeg + rr) + rt_rw ms sr mr rm) nw) s = true → x = 1 → upd (rt_st (rt_dt (rt_ca sd dl lo la rx) (fun s => (ta (la s).toNatClampNeg + rr) + rt_rw ms sr mr rm) nw) mk s) (nI s).toNatClampNeg x = rt_st (rt_dt (rt_ca sd dl lo la rx) (fun s => (ta (la s).toNatClampNeg + rr) + rt_rw ms sr mr rm) nw) mk (s + 1) := by
      intro x g e
      rw [rt_ua (by omega), e]
      show _ = upd (rt_st (rt_dt (rt_ca sd dl lo la rx) (fun s => (ta (la s).toNatClampNeg + rr) + rt_rw ms sr mr rm) nw) mk s) s (rt_b ((rt_dt (rt_ca sd dl lo la rx) (fun s => (ta (la s).toNatClampNeg + rr) + rt_rw ms sr mr rm) nw) s))
      rw [g]; rfl
    refine br_f (rt_64 s (by omega)) (ya_can hL hK (by omega) (rt_br _ (fun e => ⟨rt_in (by omega), nm_r (m0 (rt_dt_a e) rt_n0) (nm_r (nI_1 s) k)⟩) (fun e => ⟨rt_in (by omega), by rw [rt_cp (by omega)]; exact rt_IL_in hL s, ?_⟩)))
    rw [rt_at (a := la) (by omega : s < 256)]
    exact br_c (fun y => ⟨rt_in (by omega), nm_r (m0 (rt_dt_b y) rt_n0) (nm_r (nI_1 s) k)⟩) (fun y => ⟨rt_in (by omega), nm_r (m1 (rt_dt_t e y) rt_n1) (nm_r (nI_1 s) k)⟩)
theorem yc_dt_b {P : SY → Prop} {c : Nat → Bool} {m : Nat → Int32} (hm : ∀ s, s < 64 → m s = rt_b (c s)) (hp : ∀ n, wY_detect_67 P ir (nI wr) (nI tc) nw cw ss ct sa (nI nx) sr rv mr ry rr (nI rm) (nI sh) am pc ps ur (nI rp) rt ds un tl ro dc ms ms hr tp (n + 1) (nI (rt_cn c 64)) (nI 64) (lm + nI (rt_cn c 64)) bs rb re sd la dl (rt_mk c lo 64) ep m ts ta aa ax ap) : ∀ d s, s + d = 64 → wY_detect_67 P ir (nI wr) (nI tc) nw cw ss ct sa (nI nx) sr rv mr ry rr (nI rm) (nI sh) am pc ps ur (nI rp) rt ds un tl ro dc ms ms hr tp (d + 1) (nI (rt_cn c s)) (nI s) (lm + nI (rt_cn c s)) bs rb re sd la dl (rt_mk c lo s) ep m ts ta aa ax ap := by
  intro d
  induction d with
  | zero =>
    intro s h
    obtain rfl : s = 64 := by omega
    exact hp 0
  | succ d ih =>
    intro s h
    have k := ih (s + 1) (by omega)
    refine br_f (rt_64 s (by omega)) ⟨rt_in (by omega), rt_bz (by omega) (fun y => ?_) (fun y => ?_)⟩
    · rw [hm s (by omega)] at y
      rw [rt_cn_f (rt_b0 y), rt_mk_f (rt_b0 y)] at k
      exact nm_r (nI_1 s) k
    · rw [hm s (by omega)] at y
      have g := rt_b1 y
      rw [rt_cn_t g, rt_mk_t g] at k
      exact ⟨rt_in (by omega), nm_r (e' := upd (rt_mk c lo s) s 1) (by rw [rt_ua (by omega), rt_n1]) (nm_r (rt_lm lm _) (nm_r (nI_1 _) (nm_r (nI_1 s) k)))⟩
theorem la_dt (hI : rt_IV nx wr tc rp sh rm rx ry hr dc bs re sd la dl lo ts fl rb aa ax ap) : ∃ (u : SX) (v : SY), (∀ P : SX → Prop, P u → wpX_detectLosses P (ir, nw, cw, ss, ct, sa, nI wr, nI nx, nI tc, ms, sr, rv, mr, rx, rr, nI rm, nI sh, am, tp, pc, ps, ur, nI rp, rt, ds, un, tl, ro, lm, bs, re, sd, la, dl, lo, ep, ts, fl, ta)) ∧ (∀ P : SY → Prop, P v → wpY_detect P (ir, nI wr, nI tc, nw, cw, ss, ct, sa, nI nx, sr, rv, mr, ry, rr, nI rm, nI sh, am, pc, ps, ur, nI rp, rt, ds, un, tl, ro, lm, dc, ms, ms, hr, tp, bs, rb, re, sd, la, dl, lo, ep, mk, ts, ta, aa, ax, ap)) ∧ rt_RL tc u v := by
  obtain ⟨⟨n1, n2, n3, n4, n5, n6⟩, hS, hZl, hZd, hZr, hL, hT, hK, hF, hB, hC⟩ := hI
  have hx : nx ≤ 64 := by omega
  obtain ⟨dd, hdd⟩ : ∃ d, 64 = nx + d := ⟨64 - nx, by omega⟩
  have hz : ∀ s, nx ≤ s → (rt_dt (rt_ca sd dl lo la rx) (fun s => (ta (la s).toNatClampNeg + rr) + rt_rw ms sr mr rm) nw) s = false := fun s hs => rt_dt_a (rt_IS_ca hS dl lo la rx s hs)
  have e1 : rt_cn (rt_dt (rt_ca sd dl lo la rx) (fun s => (ta (la s).toNatClampNeg + rr) + rt_rw ms sr mr rm) nw) 64 = rt_cn (rt_dt (rt_ca sd dl lo la rx) (fun s => (ta (la s).toNatClampNeg + rr) + rt_rw ms sr mr rm) nw) nx := by rw [hdd]; exact rt_cn_hi (rt_dt (rt_ca sd dl lo la rx) (fun s => (ta (la s).toNatClampNeg + rr) + rt_rw ms sr mr rm) nw) hz dd
  have e2 : rt_mk (rt_dt (rt_ca sd dl lo la rx) (fun s => (ta (la s).toNatClampNeg + rr) + rt_rw ms sr mr rm) nw) lo 64 = rt_mk (rt_dt (rt_ca sd dl lo la rx) (fun s => (ta (la s).toNatClampNeg + rr) + rt_rw ms sr mr rm) nw) lo nx := by rw [hdd]; exact rt_mk_hi hz dd
  have l0 : lm + nI (rt_cn (rt_dt (rt_ca sd dl lo la rx) (fun s => (ta (la s).toNatClampNeg + rr) + rt_rw ms sr mr rm) nw) 0) = lm := by
    show lm + nI 0 = lm
    rw [nI_0, Int32.add_zero]
  have XD : ∀ P : SX → Prop, (∀ n, wX_detectLosses_4 P ir nw cw ss ct sa (nI wr) (nI nx) (nI tc) ms sr rv mr rx rr (nI rm) (nI sh) am tp pc ps ur (nI rp) rt ds un tl ro (n + 1) (rt_b (decide (0 < rt_cn (rt_dt (rt_ca sd dl lo la rx) (fun s => (ta (la s).toNatClampNeg + rr) + rt_rw ms sr mr rm) nw) nx))) (nI nx) (lm + nI (rt_cn (rt_dt (rt_ca sd dl lo la rx) (fun s => (ta (la s).toNatClampNeg + rr) + rt_rw ms sr mr rm) nw) nx)) bs re sd la dl (rt_mk (rt_dt (rt_ca sd dl lo la rx) (fun s => (ta (la s).toNatClampNeg + rr) + rt_rw ms sr mr rm) nw) lo nx) ep ts fl ta) → wpX_detectLosses P (ir, nw, cw, ss, ct, sa, nI wr, nI nx, nI tc, ms, sr, rv, mr, rx, rr, nI rm, nI sh, am, tp, pc, ps, ur, nI rp, rt, ds, un, tl, ro, lm, bs, re, sd, la, dl, lo, ep, ts, fl, ta) := by
    intro P hp
    have k := xc_dt_l hx hL hp nx 0 (by omega)
    rw [l0] at k
    exact ⟨_, k⟩
  have YD : ∀ P : SY → Prop, (∀ n, wY_detect_67 P ir (nI wr) (nI tc) nw cw ss ct sa (nI nx) sr rv mr ry rr (nI rm) (nI sh) am pc ps ur (nI rp) rt ds un tl ro dc ms ms hr tp (n + 1) (nI (rt_cn (rt_dt (rt_ca sd dl lo la rx) (fun s => (ta (la s).toNatClampNeg + rr) + rt_rw ms sr mr rm) nw) nx)) (nI 64) (lm + nI (rt_cn (rt_dt (rt_ca sd dl lo la rx) (fun s => (ta (la s).toNatClampNeg + rr) + rt_rw ms sr mr rm) nw) nx)) bs rb re sd la dl (rt_mk (rt_dt (rt_ca sd dl lo la rx) (fun s => (ta (la s).toNatClampNeg + rr) + rt_rw ms sr mr rm) nw) lo nx) ep (rt_st (rt_dt (rt_ca sd dl lo la rx) (fun s => (ta (la s).toNatClampNeg + rr) + rt_rw ms sr mr rm) nw) mk 64) ts ta aa ax ap) → wpY_detect P (ir, nI wr, nI tc, nw, cw, ss, ct, sa, nI nx, sr, rv, mr, ry, rr, nI rm, nI sh, am, pc, ps, ur, nI rp, rt, ds, un, tl, ro, lm, dc, ms, ms, hr, tp, bs, rb, re, sd, la, dl, lo, ep, mk, ts, ta, aa, ax, ap) := by
    intro P hp
    unfold wpY_detect
    refine ya_rw ⟨65, yc_dt_a (rx := rx) hL hK (fun n => br_t rt_64e ⟨65, ?_⟩) 64 0 (by omega)⟩
    rw [← e1, ← e2] at hp
    have k := yc_dt_b (c := (rt_dt (rt_ca sd dl lo la rx) (fun s => (ta (la s).toNatClampNeg + rr) + rt_rw ms sr mr rm) nw)) (m := rt_st (rt_dt (rt_ca sd dl lo la rx) (fun s => (ta (la s).toNatClampNeg + rr) + rt_rw ms sr mr rm) nw) mk 64) (fun s hs => rt_st_v 64 s hs) hp 64 0 (by omega)
    rw [l0] at k
    exact k
  have hZ2 : rt_IZ nx (rt_mk (rt_dt (rt_ca sd dl lo la rx) (fun s => (ta (la s).toNatClampNeg + rr) + rt_rw ms sr mr rm) nw) lo nx) := rt_IZ_mk hZl hz nx
  generalize hc : rt_cn (rt_dt (rt_ca sd dl lo la rx) (fun s => (ta (la s).toNatClampNeg + rr) + rt_rw ms sr mr rm) nw) nx = c at XD YD
  have hc6 : c ≤ 64 := by
    have := rt_cn_le (rt_dt (rt_ca sd dl lo la rx) (fun s => (ta (la s).toNatClampNeg + rr) + rt_rw ms sr mr rm) nw) nx
    omega
  have xe : nI nx ≤ nI nx := nI_le (Nat.le_refl _) (by omega)
  by_cases c0 : 0 < c
  · have d1 : ¬ rt_b (decide (0 < c)) = 0 := by rw [decide_eq_true c0]; decide
    have c1 : ¬ nI c ≤ 0 := nI_nle c0 (by omega)
    by_cases s0 : sa = 0
    · refine ⟨_, (ir, nI wr, nI tc, nw, rt_mx (cw / 2) 2, rt_mx (cw / 2) 2, 0, 1, nI nx, sr, rv, mr, ry, rr, nI rm, nI sh, am, cw, ss, 0, nI nx, rt, ds, un, tl, ro, lm + nI c, dc, ms, ms, hr, tp, bs, rb, re, sd, la, dl, rt_mk (rt_dt (rt_ca sd dl lo la rx) (fun s => (ta (la s).toNatClampNeg + rr) + rt_rw ms sr mr rm) nw) lo nx, rt_zr ep 64, rt_st (rt_dt (rt_ca sd dl lo la rx) (fun s => (ta (la s).toNatClampNeg + rr) + rt_rw ms sr mr rm) nw) mk 64, ts, ta, aa, ax, ap), fun P hp => XD P (fun n => br_t xe (br_f d1 (br_t s0 (xc_be ⟨by decide, xa_larger hp⟩)))), fun P hp => YD P (fun n => br_t rt_64e (br_f c1 (br_t s0 (yc_be ⟨by decide, nm_e ?_⟩)))), rt_RLi (rp := nx) ⟨⟨n1, n2, n3, hx, n5, n6⟩, hS, hZ2, hZd, hZr, hL, hT, hK, hF, hB, hC⟩⟩
      refine br_c (fun z => ?_) (fun z => ?_)
      · rw [rt_mx_g z] at hp; exact hp
      · rw [rt_mx_l (rt_nle z)] at hp; exact hp
    · exact ⟨_, _, fun P hp => XD P (fun n => br_t xe (br_f d1 (br_f s0 hp))), fun P hp => YD P (fun n => br_t rt_64e (br_f c1 (br_f s0 hp))), rt_RLi ⟨⟨n1, n2, n3, n4, n5, n6⟩, hS, hZ2, hZd, hZr, hL, hT, hK, hF, hB, hC⟩⟩
  · have d0 : rt_b (decide (0 < c)) = 0 := by rw [decide_eq_false c0]; rfl
    have c1 : nI c ≤ 0 := by
      have : c = 0 := by omega
      rw [this]; decide
    exact ⟨_, _, fun P hp => XD P (fun n => br_t xe (br_t d0 hp)), fun P hp => YD P (fun n => br_t rt_64e (br_t c1 hp)), rt_RLi ⟨⟨n1, n2, n3, n4, n5, n6⟩, hS, hZ2, hZd, hZr, hL, hT, hK, hF, hB, hC⟩⟩
end
