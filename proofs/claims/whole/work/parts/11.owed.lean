/-! what is owed -/
theorem rt_IV0 : rt_IV 0 0 0 0 0 1 (-1) 0 0 0 (fun _ => 0) (fun _ => 0) (fun _ => 0) (fun _ => 0) (fun _ => 0) (fun _ => 0) (fun _ => 0) (fun _ => 0) (fun _ => 0) (fun _ => 0) (fun _ => 0) (fun _ => 0) := by
  refine ⟨⟨by omega, by omega, by omega, by omega, by omega, by omega⟩, ⟨fun s hs => absurd hs (Nat.not_lt_zero s), fun _ _ => rfl⟩, fun _ _ => rfl, fun _ _ => rfl, fun _ _ => rfl, fun _ => ⟨0, by omega, rfl⟩, fun t ht => absurd ht (Nat.not_lt_zero t), Or.inl ⟨rfl, rfl⟩, fun t ht => absurd ht (Nat.not_lt_zero t), fun s hs => absurd rfl hs, ?_⟩
  have e := rt_cn_hi (rt_nz (fun _ => 0)) (n := 0) (fun s _ => rt_nz_f rfl) 64
  rw [Nat.zero_add] at e
  unfold rt_IC
  rw [e]
  rfl
theorem yz_in {P : SY → Prop} {p q : Int32} (hp : P (rt_cl q 4 1000, 0, 0, 0, rt_cl p 1 16, 32, 0, 0, 0, 0, 0, 0, 0, 0, 1, 0, 0, 0, 0, 0, 0, 0, 0, 0, 0, 0, 0, 0, 0, 0, 0, 0, (fun _ => 0), (fun _ => 0), (fun _ => 0), (fun _ => 0), (fun _ => 0), (fun _ => 0), (fun _ => 0), (fun _ => 0), (fun _ => 0), (fun _ => 0), (fun _ => 0), (fun _ => 0), (fun _ => 0), (fun _ => 0))) : wpY_init P p q := by
  have B : ∀ x : Int32, rt_cl p 1 16 = x → wY_init_150 P q x 0 0 0 0 0 32 0 0 0 0 0 0 0 0 1 0 0 0 0 0 0 0 0 0 0 0 0 0 0 0 0 0 (fun _ => 0) (fun _ => 0) (fun _ => 0) (fun _ => 0) (fun _ => 0) (fun _ => 0) (fun _ => 0) (fun _ => 0) (fun _ => 0) (fun _ => 0) (fun _ => 0) (fun _ => 0) (fun _ => 0) (fun _ => 0)  := by
    intro x e
    rw [e] at hp
    refine br_c (fun a => br_c (fun b => ?_) (fun b => ?_)) (fun a => br_t (by decide) ?_)
    · rw [rt_cl_c (Int32.not_lt.mpr a) (Int32.not_lt.mpr b)] at hp; exact hp
    · rw [rt_cl_b (Int32.not_lt.mpr a) (Int32.not_le.mp b)] at hp; exact hp
    · rw [rt_cl_a (Int32.not_le.mp a)] at hp; exact hp
  refine br_c (fun a => br_c (fun b => ?_) (fun b => ?_)) (fun a => br_t (by decide) ?_)
  · exact B _ (rt_cl_c (Int32.not_lt.mpr a) (Int32.not_lt.mpr b))
  · exact B _ (rt_cl_b (Int32.not_lt.mpr a) (Int32.not_le.mp b))
  · exact B _ (rt_cl_a (Int32.not_le.mp a))
theorem i_vc0 (k0 : Int32) (k1 : Int32) : wpX_init (fun u => wpY_init (fun v => i_Rel 2 u v) k0 k1) k0 k1 := by
  unfold wpX_init
  refine xa_clamp ?_
  refine xa_clamp ?_
  exact yz_in ⟨0, rt_RLi (wr := 0) (nx := 0) (rm := 1) (sh := 0) (rp := 0) rt_IV0⟩
theorem i_vc_write {k : Nat} {u : SX} {v : SY} (I : i_Rel k u v) (hk : k + 2 ≤ 1026) (v1 : Int32) : wpX_write (fun r u' => wpY_write (fun r' v' => r' = r ∧ i_Rel (k + 2) u' v') v v1) u v1 := by
  obtain ⟨tc, wr, nx, rm, sh, rp, ir, nw, cw, ss, ct, sa, ms, sr, rv, mr, rx, rr, am, tp, pc, ps, ur, rt, ds, un, tl, ro, lm, ry, hr, dc, bs, re, sd, la, dl, lo, ep, ts, fl, ta, rb, mk, aa, ax, ap, rfl, rfl, hI⟩ := I
  have hI0 := hI
  obtain ⟨⟨n1, n2, n3, n4, n5, n6⟩, hS, hZl, hZd, hZr, hL, hT, hK, hF, hB, hC⟩ := hI0
  rcases Nat.lt_or_ge wr 64 with h | h
  · have w1 : nI wr < 64 := nI_lt (b := 64) h (by decide)
    have hB2 : rt_IB re rb (upd bs wr (v1 &&& 255)) := fun s hs => by
      rcases Nat.lt_or_ge s nx with g | g
      · rw [pk_un (by omega)]; exact hB s hs
      · exact absurd (hZr s g) hs
    obtain ⟨t, u2, v2, hX, hY, R⟩ := la_sd (nx := nx) (tc := tc) (rm := rm) (sh := sh) (rp := rp) (ir := ir) (nw := nw) (cw := cw) (ss := ss) (ct := ct) (sa := sa) (ms := ms) (sr := sr) (rv := rv) (mr := mr) (rx := rx) (rr := rr) (am := am) (tp := tp) (pc := pc) (ps := ps) (ur := ur) (rt := rt) (ds := ds) (un := un) (tl := tl) (ro := ro) (lm := lm) (ry := ry) (hr := hr) (dc := dc) (re := re) (sd := sd) (la := la) (dl := dl) (lo := lo) (ep := ep) (ts := ts) (fl := fl) (ta := ta) (rb := rb) (mk := mk) (aa := aa) (ax := ax) (ap := ap) (wr := wr + 1) (bs := upd bs wr (v1 &&& 255)) ⟨⟨by omega, by omega, n3, n4, n5, n6⟩, hS, hZl, hZd, hZr, hL, hT, hK, hF, hB2, hC⟩
    obtain ⟨wr', nx', rm', sh', rp', ir', nw', cw', ss', ct', sa', ms', sr', rv', mr', rx', rr', am', tp', pc', ps', ur', rt', ds', un', tl', ro', lm', ry', hr', dc', bs', re', sd', la', dl', lo', ep', ts', fl', ta', rb', mk', aa', ax', ap', rfl, rfl, hI'⟩ := R
    refine br_t w1 ⟨rt_in h, nm_r (rt_ua (by omega)) (nm_r (nI_1 wr) (hX _ ?_))⟩
    exact br_t w1 ⟨rt_in h, nm_r (rt_ua (by omega)) (nm_r (nI_1 wr) (hY _ ⟨rfl, t, rt_RLi (wr := wr') (nx := nx') (rm := rm') (sh := sh') (rp := rp') (ir := ir') (nw := nw') (cw := cw') (ss := ss') (ct := ct') (sa := sa') (ms := ms') (sr := sr') (rv := rv') (mr := mr') (rx := rx') (rr := rr') (am := am') (tp := tp') (pc := pc') (ps := ps') (ur := ur') (rt := rt') (ds := ds') (un := un') (tl := tl') (ro := ro') (lm := lm') (ry := ry') (hr := hr') (dc := dc') (bs := bs') (re := re') (sd := sd') (la := la') (dl := dl') (lo := lo') (ep := ep') (ts := ts') (fl := fl') (ta := ta') (rb := rb') (mk := mk') (aa := aa') (ax := ax') (ap := ap') hI'⟩))⟩
  · have w1 : ¬ nI wr < 64 := nI_nlt (b := 64) h (by omega)
    exact br_f w1 (br_f w1 ⟨rfl, tc, rt_RLi hI⟩)
theorem i_vc_deliver {k : Nat} {u : SX} {v : SY} (I : i_Rel k u v) (hk : k + 2 ≤ 1026) (v1 : Int32) : wpX_deliver (fun r u' => wpY_deliver (fun r' v' => r' = r ∧ i_Rel (k + 2) u' v') v v1) u v1 := by
  obtain ⟨tc, wr, nx, rm, sh, rp, ir, nw, cw, ss, ct, sa, ms, sr, rv, mr, rx, rr, am, tp, pc, ps, ur, rt, ds, un, tl, ro, lm, ry, hr, dc, bs, re, sd, la, dl, lo, ep, ts, fl, ta, rb, mk, aa, ax, ap, rfl, rfl, hI⟩ := I
  obtain ⟨t, r, u2, v2, hX, hY, R⟩ := la_dv (wr := wr) (nx := nx) (tc := tc) (rm := rm) (sh := sh) (rp := rp) (ir := ir) (nw := nw) (cw := cw) (ss := ss) (ct := ct) (sa := sa) (ms := ms) (sr := sr) (rv := rv) (mr := mr) (rx := rx) (rr := rr) (am := am) (tp := tp) (pc := pc) (ps := ps) (ur := ur) (rt := rt) (ds := ds) (un := un) (tl := tl) (ro := ro) (lm := lm) (ry := ry) (hr := hr) (dc := dc) (bs := bs) (re := re) (sd := sd) (la := la) (dl := dl) (lo := lo) (ep := ep) (ts := ts) (fl := fl) (ta := ta) (rb := rb) (mk := mk) (aa := aa) (ax := ax) (ap := ap) (x := v1) hI
  exact hX _ (hY _ ⟨rfl, t, R⟩)
theorem i_vc_deliverNoAck {k : Nat} {u : SX} {v : SY} (I : i_Rel k u v) (hk : k + 2 ≤ 1026) (v1 : Int32) : wpX_deliverNoAck (fun r u' => wpY_deliverNoAck (fun r' v' => r' = r ∧ i_Rel (k + 2) u' v') v v1) u v1 := by
  obtain ⟨tc, wr, nx, rm, sh, rp, ir, nw, cw, ss, ct, sa, ms, sr, rv, mr, rx, rr, am, tp, pc, ps, ur, rt, ds, un, tl, ro, lm, ry, hr, dc, bs, re, sd, la, dl, lo, ep, ts, fl, ta, rb, mk, aa, ax, ap, rfl, rfl, hI⟩ := I
  obtain ⟨t, r, u2, v2, hX, hY, R⟩ := la_dn (wr := wr) (nx := nx) (tc := tc) (rm := rm) (sh := sh) (rp := rp) (ir := ir) (nw := nw) (cw := cw) (ss := ss) (ct := ct) (sa := sa) (ms := ms) (sr := sr) (rv := rv) (mr := mr) (rx := rx) (rr := rr) (am := am) (tp := tp) (pc := pc) (ps := ps) (ur := ur) (rt := rt) (ds := ds) (un := un) (tl := tl) (ro := ro) (lm := lm) (ry := ry) (hr := hr) (dc := dc) (bs := bs) (re := re) (sd := sd) (la := la) (dl := dl) (lo := lo) (ep := ep) (ts := ts) (fl := fl) (ta := ta) (rb := rb) (mk := mk) (aa := aa) (ax := ax) (ap := ap) (x := v1) hI
  exact hX _ (hY _ ⟨rfl, t, R⟩)
theorem i_vc_tick {k : Nat} {u : SX} {v : SY} (I : i_Rel k u v) (hk : k + 2 ≤ 1026) (v1 : Int32) : wpX_tick (fun r u' => wpY_tick (fun r' v' => r' = r ∧ i_Rel (k + 2) u' v') v v1) u v1 := by
  obtain ⟨tc, wr, nx, rm, sh, rp, ir, nw, cw, ss, ct, sa, ms, sr, rv, mr, rx, rr, am, tp, pc, ps, ur, rt, ds, un, tl, ro, lm, ry, hr, dc, bs, re, sd, la, dl, lo, ep, ts, fl, ta, rb, mk, aa, ax, ap, rfl, rfl, hI⟩ := I
  obtain ⟨t, r, u2, v2, hX, hY, R⟩ := la_tk_l (g := nw + rt_cl v1 0 10000) 64 wr nx tc rm sh rp ir nw cw ss ct sa ms sr rv mr rx rr am tp pc ps ur rt ds un tl ro lm ry hr dc bs re sd la dl lo ep ts fl ta rb mk aa ax ap hI 0 (by omega)
  have Y : ∀ P : Int32 → SY → Prop, P r v2 → wpY_tick P (ir, nI wr, nI tc, nw, cw, ss, ct, sa, nI nx, sr, rv, mr, ry, rr, nI rm, nI sh, am, pc, ps, ur, nI rp, rt, ds, un, tl, ro, lm, dc, ms, ms, hr, tp, bs, rb, re, sd, la, dl, lo, ep, mk, ts, ta, aa, ax, ap) v1 := by
    intro P hp
    have B : ∀ x : Int32, rt_cl v1 0 10000 = x → wY_tick_19 P x ir (nI wr) (nI tc) nw cw ss ct sa (nI nx) sr rv mr ry rr (nI rm) (nI sh) am pc ps ur (nI rp) rt ds un tl ro lm dc ms ms hr tp bs rb re sd la dl lo ep mk ts ta aa ax ap := by
      intro x e
      rw [e] at hY
      exact nm_e ⟨65, hY P 65 hp (by omega)⟩
    refine br_c (fun a => br_c (fun b => ?_) (fun b => ?_)) (fun a => br_t (by decide) ?_)
    · exact B _ (rt_cl_c (Int32.not_lt.mpr a) (Int32.not_lt.mpr b))
    · exact B _ (rt_cl_b (Int32.not_lt.mpr a) (Int32.not_le.mp b))
    · exact B _ (rt_cl_a (Int32.not_le.mp a))
  unfold wpX_tick
  refine xa_clamp ?_
  exact nm_e ⟨65, hX _ 65 (Y _ ⟨rfl, t, R⟩) (by omega)⟩
theorem i_vc_txInfo {k : Nat} {u : SX} {v : SY} (I : i_Rel k u v) (hk : k + 2 ≤ 1026) (v1 : Int32) : wpX_txInfo (fun r => wpY_txInfo (fun r' => r' = r ∧ i_Rel (k + 2) u v) v v1) u v1 := by
  have J : i_Rel (k + 2) u v := I
  obtain ⟨tc, wr, nx, rm, sh, rp, ir, nw, cw, ss, ct, sa, ms, sr, rv, mr, rx, rr, am, tp, pc, ps, ur, rt, ds, un, tl, ro, lm, ry, hr, dc, bs, re, sd, la, dl, lo, ep, ts, fl, ta, rb, mk, aa, ax, ap, rfl, rfl, hI⟩ := I
  obtain ⟨r, hX, hY⟩ := la_ti (wr := wr) (nx := nx) (tc := tc) (rm := rm) (sh := sh) (rp := rp) (ir := ir) (nw := nw) (cw := cw) (ss := ss) (ct := ct) (sa := sa) (ms := ms) (sr := sr) (rv := rv) (mr := mr) (rx := rx) (rr := rr) (am := am) (tp := tp) (pc := pc) (ps := ps) (ur := ur) (rt := rt) (ds := ds) (un := un) (tl := tl) (ro := ro) (lm := lm) (ry := ry) (hr := hr) (dc := dc) (bs := bs) (re := re) (sd := sd) (la := la) (dl := dl) (lo := lo) (ep := ep) (ts := ts) (fl := fl) (ta := ta) (rb := rb) (mk := mk) (aa := aa) (ax := ax) (ap := ap) v1 hI
  exact hX _ (hY _ ⟨rfl, J⟩)
theorem i_vc_txTime {k : Nat} {u : SX} {v : SY} (I : i_Rel k u v) (hk : k + 2 ≤ 1026) (v1 : Int32) : wpX_txTime (fun r => wpY_txTime (fun r' => r' = r ∧ i_Rel (k + 2) u v) v v1) u v1 := by
  have J : i_Rel (k + 2) u v := I
  obtain ⟨tc, wr, nx, rm, sh, rp, ir, nw, cw, ss, ct, sa, ms, sr, rv, mr, rx, rr, am, tp, pc, ps, ur, rt, ds, un, tl, ro, lm, ry, hr, dc, bs, re, sd, la, dl, lo, ep, ts, fl, ta, rb, mk, aa, ax, ap, rfl, rfl, hI⟩ := I
  obtain ⟨r, hX, hY⟩ := la_tt (wr := wr) (nx := nx) (tc := tc) (rm := rm) (sh := sh) (rp := rp) (ir := ir) (nw := nw) (cw := cw) (ss := ss) (ct := ct) (sa := sa) (ms := ms) (sr := sr) (rv := rv) (mr := mr) (rx := rx) (rr := rr) (am := am) (tp := tp) (pc := pc) (ps := ps) (ur := ur) (rt := rt) (ds := ds) (un := un) (tl := tl) (ro := ro) (lm := lm) (ry := ry) (hr := hr) (dc := dc) (bs := bs) (re := re) (sd := sd) (la := la) (dl := dl) (lo := lo) (ep := ep) (ts := ts) (fl := fl) (ta := ta) (rb := rb) (mk := mk) (aa := aa) (ax := ax) (ap := ap) v1 hI
  exact hX _ (hY _ ⟨rfl, J⟩)
theorem i_vc_segment {k : Nat} {u : SX} {v : SY} (I : i_Rel k u v) (hk : k + 2 ≤ 1026) (v1 : Int32) : wpX_segment (fun r => wpY_segment (fun r' => r' = r ∧ i_Rel (k + 2) u v) v v1) u v1 := by
  have J : i_Rel (k + 2) u v := I
  obtain ⟨tc, wr, nx, rm, sh, rp, ir, nw, cw, ss, ct, sa, ms, sr, rv, mr, rx, rr, am, tp, pc, ps, ur, rt, ds, un, tl, ro, lm, ry, hr, dc, bs, re, sd, la, dl, lo, ep, ts, fl, ta, rb, mk, aa, ax, ap, rfl, rfl, hI⟩ := I
  obtain ⟨r, hX, hY⟩ := la_sg (wr := wr) (nx := nx) (tc := tc) (rm := rm) (sh := sh) (rp := rp) (ir := ir) (nw := nw) (cw := cw) (ss := ss) (ct := ct) (sa := sa) (ms := ms) (sr := sr) (rv := rv) (mr := mr) (rx := rx) (rr := rr) (am := am) (tp := tp) (pc := pc) (ps := ps) (ur := ur) (rt := rt) (ds := ds) (un := un) (tl := tl) (ro := ro) (lm := lm) (ry := ry) (hr := hr) (dc := dc) (bs := bs) (re := re) (sd := sd) (la := la) (dl := dl) (lo := lo) (ep := ep) (ts := ts) (fl := fl) (ta := ta) (rb := rb) (mk := mk) (aa := aa) (ax := ax) (ap := ap) v1 hI
  exact hX _ (hY _ ⟨rfl, J⟩)
theorem i_vc_recvByte {k : Nat} {u : SX} {v : SY} (I : i_Rel k u v) (hk : k + 2 ≤ 1026) (v1 : Int32) : wpX_recvByte (fun r => wpY_recvByte (fun r' => r' = r ∧ i_Rel (k + 2) u v) v v1) u v1 := by
  have J : i_Rel (k + 2) u v := I
  obtain ⟨tc, wr, nx, rm, sh, rp, ir, nw, cw, ss, ct, sa, ms, sr, rv, mr, rx, rr, am, tp, pc, ps, ur, rt, ds, un, tl, ro, lm, ry, hr, dc, bs, re, sd, la, dl, lo, ep, ts, fl, ta, rb, mk, aa, ax, ap, rfl, rfl, hI⟩ := I
  obtain ⟨r, hX, hY⟩ := la_rb (wr := wr) (nx := nx) (tc := tc) (rm := rm) (sh := sh) (rp := rp) (ir := ir) (nw := nw) (cw := cw) (ss := ss) (ct := ct) (sa := sa) (ms := ms) (sr := sr) (rv := rv) (mr := mr) (rx := rx) (rr := rr) (am := am) (tp := tp) (pc := pc) (ps := ps) (ur := ur) (rt := rt) (ds := ds) (un := un) (tl := tl) (ro := ro) (lm := lm) (ry := ry) (hr := hr) (dc := dc) (bs := bs) (re := re) (sd := sd) (la := la) (dl := dl) (lo := lo) (ep := ep) (ts := ts) (fl := fl) (ta := ta) (rb := rb) (mk := mk) (aa := aa) (ax := ax) (ap := ap) v1 hI
  exact hX _ (hY _ ⟨rfl, J⟩)
theorem i_vc_stat {k : Nat} {u : SX} {v : SY} (I : i_Rel k u v) (hk : k + 2 ≤ 1026) (v1 : Int32) : wpX_stat (fun r => wpY_stat (fun r' => r' = r ∧ i_Rel (k + 2) u v) v v1) u v1 := by
  have J : i_Rel (k + 2) u v := I
  obtain ⟨tc, wr, nx, rm, sh, rp, ir, nw, cw, ss, ct, sa, ms, sr, rv, mr, rx, rr, am, tp, pc, ps, ur, rt, ds, un, tl, ro, lm, ry, hr, dc, bs, re, sd, la, dl, lo, ep, ts, fl, ta, rb, mk, aa, ax, ap, rfl, rfl, hI⟩ := I
  obtain ⟨r, hX, hY⟩ := la_st (wr := wr) (nx := nx) (tc := tc) (rm := rm) (sh := sh) (rp := rp) (ir := ir) (nw := nw) (cw := cw) (ss := ss) (ct := ct) (sa := sa) (ms := ms) (sr := sr) (rv := rv) (mr := mr) (rx := rx) (rr := rr) (am := am) (tp := tp) (pc := pc) (ps := ps) (ur := ur) (rt := rt) (ds := ds) (un := un) (tl := tl) (ro := ro) (lm := lm) (ry := ry) (hr := hr) (dc := dc) (bs := bs) (re := re) (sd := sd) (la := la) (dl := dl) (lo := lo) (ep := ep) (ts := ts) (fl := fl) (ta := ta) (rb := rb) (mk := mk) (aa := aa) (ax := ax) (ap := ap) v1 hI
  exact hX _ (hY _ ⟨rfl, J⟩)
