/-! the timer fires, and time passes, in lockstep -/
section
variable {ir nw cw ss ct sa ms sr rv mr rx rr am tp pc ps ur rt ds un tl ro lm : Int32} {wr nx tc rm sh rp : Nat} {bs re sd la dl lo ep ts fl ta : Nat → Int32} {ry hr dc : Int32} {rb mk aa ax ap : Nat → Int32} {post : Int32 → Prop}
theorem xd_id1 {t : Nat} (ht : tc ≤ 256) (h : t < tc) (hp : post 1) : wpX_isId post (ir, nw, cw, ss, ct, sa, nI wr, nI nx, nI tc, ms, sr, rv, mr, rx, rr, nI rm, nI sh, am, tp, pc, ps, ur, nI rp, rt, ds, un, tl, ro, lm, bs, re, sd, la, dl, lo, ep, ts, fl, ta) (nI t) :=
  br_f (nI_pos (by omega)) (br_f (nI_ge h (by omega)) hp)
theorem xd_id0 {x : Int32} (h : x < 0 ∨ nI tc ≤ x) (hp : post 0) : wpX_isId post (ir, nw, cw, ss, ct, sa, nI wr, nI nx, nI tc, ms, sr, rv, mr, rx, rr, nI rm, nI sh, am, tp, pc, ps, ur, nI rp, rt, ds, un, tl, ro, lm, bs, re, sd, la, dl, lo, ep, ts, fl, ta) x := by
  by_cases z : x < 0
  · exact br_t z hp
  · exact br_f z (br_t (h.elim (fun y => absurd y z) id) hp)
theorem xd_to_l {P : SX → Prop} (hx : nx ≤ 64) (hp : ∀ n, wX_timeOut_68 P ir nw cw ss ct sa (nI wr) (nI nx) (nI tc) ms sr rv mr rx rr (nI rm) (nI sh) am tp pc ps ur (nI rp) rt ds un tl ro lm (n + 1) (nI nx) bs re sd la dl (rt_mk (rt_ou sd dl) lo nx) ep ts fl ta) : ∀ d s, s + d = nx → wX_timeOut_68 P ir nw cw ss ct sa (nI wr) (nI nx) (nI tc) ms sr rv mr rx rr (nI rm) (nI sh) am tp pc ps ur (nI rp) rt ds un tl ro lm (d + 1) (nI s) bs re sd la dl (rt_mk (rt_ou sd dl) lo s) ep ts fl ta := by
  intro d
  induction d with
  | zero =>
    intro s h
    obtain rfl : s = nx := by omega
    exact hp 0
  | succ d ih =>
    intro s h
    have k := ih (s + 1) (by omega)
    refine br_f (nI_ge (by omega) (by omega)) (xa_out (by omega) (rt_br _ (fun e => ?_) (fun e => ⟨rt_in (by omega), nm_r (e' := rt_mk (rt_ou sd dl) lo (s + 1)) (by rw [rt_mk_t e, rt_ua (by omega), rt_n1]) (nm_r (nI_1 s) k)⟩)))
    rw [rt_mk_f e] at k; exact nm_r (nI_1 s) k
theorem yd_to_l {P : SY → Prop} (hp : ∀ n, wY_fire_178 P ir (nI wr) (nI tc) nw cw ss ct sa (nI nx) sr rv mr ry rr (nI rm) (nI sh) am pc ps ur (nI rp) rt ds un tl ro lm dc ms ms hr tp (n + 1) (nI 64) bs rb re sd la dl (rt_mk (rt_ou sd dl) lo 64) ep mk ts ta aa ax ap) : ∀ d s, s + d = 64 → wY_fire_178 P ir (nI wr) (nI tc) nw cw ss ct sa (nI nx) sr rv mr ry rr (nI rm) (nI sh) am pc ps ur (nI rp) rt ds un tl ro lm dc ms ms hr tp (d + 1) (nI s) bs rb re sd la dl (rt_mk (rt_ou sd dl) lo s) ep mk ts ta aa ax ap := by
  intro d
  induction d with
  | zero =>
    intro s h
    obtain rfl : s = 64 := by omega
    exact hp 0
  | succ d ih =>
    intro s h
    have k := ih (s + 1) (by omega)
    refine br_f (rt_64 s (by omega)) (ya_out (by omega) (rt_br _ (fun e => ?_) (fun e => ⟨rt_in (by omega), nm_r (e' := rt_mk (rt_ou sd dl) lo (s + 1)) (by rw [rt_mk_t e, rt_ua (by omega), rt_n1]) (nm_r (nI_1 s) k)⟩)))
    rw [rt_mk_f e] at k; exact nm_r (nI_1 s) k
theorem ld_43 (hx : nx ≤ 64) (hS : rt_IS nx tc sd) (h6 : sh ≤ 6) : ∃ s' : Nat, s' ≤ 6 ∧ (∀ P : SX → Prop, P (ir, nw, 1, ss, 0, 2, nI wr, nI nx, nI tc, ms, sr, rv, mr, rx, rr, nI rm, nI s', am, 0, pc, ps, ur, nI nx, rt, ds, un, tl, ro, lm, bs, re, sd, la, dl, rt_mk (rt_ou sd dl) lo nx, ep, ts, fl, ta) → wX_timeOut_43 P ir nw cw ss ct sa (nI wr) (nI nx) (nI tc) ms sr rv mr rx rr (nI rm) (nI sh) am tp pc ps ur (nI rp) rt ds un tl ro lm bs re sd la dl lo ep ts fl ta) ∧ (∀ (P : SY → Prop) (v : SY), (∀ Q : SY → Prop, Q v → wpY_send Q (ir, nI wr, nI tc, nw, 1, ss, 0, 2, nI nx, sr, rv, mr, ry, rr, nI rm, nI s', am, pc, ps, ur, nI nx, rt, ds, un, tl, ro, lm, dc, ms, ms, hr, 0, bs, rb, re, sd, la, dl, rt_mk (rt_ou sd dl) lo nx, ep, mk, ts, ta, aa, ax, ap)) → P v → wY_fire_153 P ir (nI wr) (nI tc) nw cw ss ct sa (nI nx) sr rv mr ry rr (nI rm) (nI sh) am pc ps ur (nI rp) rt ds un tl ro lm dc ms ms hr tp bs rb re sd la dl lo ep mk ts ta aa ax ap) := by
  obtain ⟨dd, hdd⟩ : ∃ d, 64 = nx + d := ⟨64 - nx, by omega⟩
  have e2 : rt_mk (rt_ou sd dl) lo 64 = rt_mk (rt_ou sd dl) lo nx := by rw [hdd]; exact rt_mk_hi (rt_IS_ou hS dl) dd
  have xe : nI nx ≤ nI nx := nI_le (Nat.le_refl _) (by omega)
  rcases Nat.lt_or_ge sh 6 with h | h
  · refine ⟨sh + 1, by omega, fun P hp => ?_, fun P v hs hp => ?_⟩
    · exact ⟨nx + 1, xd_to_l (cw := 1) (ct := 0) (sa := 2) (rp := nx) hx (fun n => br_t xe (br_f (nI_ge (b := 6) h (by decide)) (nm_r (nI_1 sh) hp))) nx 0 (by omega)⟩
    · obtain ⟨ir_, wr_, tc_, nw_, cw_, ss_, ct_, sa_, nx_, sr_, rv_, mr_, ry_, rr_, rm_, sh_, am_, pc_, ps_, ur_, rp_, rt_, ds_, un_, tl_, ro_, lm_, dc_, ms_, mm_, hr_, tp_, bs_, rb_, re_, sd_, la_, dl_, lo_, ep_, mk_, ts_, ta_, aa_, ax_, ap_⟩ := v
      refine ⟨65, yd_to_l (cw := 1) (ct := 0) (sa := 2) (rp := nx) (fun n => br_t rt_64e (br_t (by rw [nI_1 sh]; exact nI_le (b := 6) (by omega) (by decide)) ?_)) 64 0 (by omega)⟩
      rw [nI_1 sh, e2]
      exact hs _ hp
  · obtain rfl : sh = 6 := by omega
    refine ⟨6, by omega, fun P hp => ?_, fun P v hs hp => ?_⟩
    · exact ⟨nx + 1, xd_to_l (cw := 1) (ct := 0) (sa := 2) (rp := nx) hx (fun n => br_t xe (br_t (by decide) hp)) nx 0 (by omega)⟩
    · obtain ⟨ir_, wr_, tc_, nw_, cw_, ss_, ct_, sa_, nx_, sr_, rv_, mr_, ry_, rr_, rm_, sh_, am_, pc_, ps_, ur_, rp_, rt_, ds_, un_, tl_, ro_, lm_, dc_, ms_, mm_, hr_, tp_, bs_, rb_, re_, sd_, la_, dl_, lo_, ep_, mk_, ts_, ta_, aa_, ax_, ap_⟩ := v
      refine ⟨65, yd_to_l (cw := 1) (ct := 0) (sa := 2) (rp := nx) (fun n => br_t rt_64e (br_f (by decide) ?_)) 64 0 (by omega)⟩
      rw [e2]
      exact hs _ hp
theorem ld_21 (hx : nx ≤ 64) (hS : rt_IS nx tc sd) (h6 : sh ≤ 6) : ∃ (s' : Nat) (ss' : Int32), s' ≤ 6 ∧ (∀ P : SX → Prop, P (ir, nw, 1, ss', 0, 2, nI wr, nI nx, nI tc, ms, sr, rv, mr, rx, rr, nI rm, nI s', am, 0, pc, ps, ur, nI nx, rt, ds, un, tl, ro, lm, bs, re, sd, la, dl, rt_mk (rt_ou sd dl) lo nx, ep, ts, fl, ta) → wX_timeOut_21 P ir nw cw ss ct sa (nI wr) (nI nx) (nI tc) ms sr rv mr rx rr (nI rm) (nI sh) am tp pc ps ur (nI rp) rt ds un tl ro lm bs re sd la dl lo ep ts fl ta) ∧ (∀ (P : SY → Prop) (v : SY), (∀ Q : SY → Prop, Q v → wpY_send Q (ir, nI wr, nI tc, nw, 1, ss', 0, 2, nI nx, sr, rv, mr, ry, rr, nI rm, nI s', am, pc, ps, ur, nI nx, rt, ds, un, tl, ro, lm, dc, ms, ms, hr, 0, bs, rb, re, sd, la, dl, rt_mk (rt_ou sd dl) lo nx, ep, mk, ts, ta, aa, ax, ap)) → P v → wY_fire_122 P ir (nI wr) (nI tc) nw cw ss ct sa (nI nx) sr rv mr ry rr (nI rm) (nI sh) am pc ps ur (nI rp) rt ds un tl ro lm dc ms ms hr tp bs rb re sd la dl lo ep mk ts ta aa ax ap) := by
  by_cases z : sa = 2
  · obtain ⟨s', h, hX, hY⟩ := ld_43 (wr := wr) (nx := nx) (tc := tc) (rm := rm) (sh := sh) (rp := rp) (ir := ir) (nw := nw) (cw := cw) (ct := ct) (sa := sa) (ms := ms) (sr := sr) (rv := rv) (mr := mr) (rx := rx) (rr := rr) (am := am) (tp := tp) (pc := pc) (ps := ps) (ur := ur) (rt := rt) (ds := ds) (un := un) (tl := tl) (ro := ro) (lm := lm) (ry := ry) (hr := hr) (dc := dc) (bs := bs) (re := re) (sd := sd) (la := la) (dl := dl) (lo := lo) (ep := ep) (ts := ts) (fl := fl) (ta := ta) (rb := rb) (mk := mk) (aa := aa) (ax := ax) (ap := ap) (ss := ss) hx hS h6
    exact ⟨s', ss, h, fun P hp => br_t z (hX P hp), fun P v hs hp => br_t z (hY P v hs hp)⟩
  · obtain ⟨s', h, hX, hY⟩ := ld_43 (wr := wr) (nx := nx) (tc := tc) (rm := rm) (sh := sh) (rp := rp) (ir := ir) (nw := nw) (cw := cw) (ct := ct) (sa := sa) (ms := ms) (sr := sr) (rv := rv) (mr := mr) (rx := rx) (rr := rr) (am := am) (tp := tp) (pc := pc) (ps := ps) (ur := ur) (rt := rt) (ds := ds) (un := un) (tl := tl) (ro := ro) (lm := lm) (ry := ry) (hr := hr) (dc := dc) (bs := bs) (re := re) (sd := sd) (la := la) (dl := dl) (lo := lo) (ep := ep) (ts := ts) (fl := fl) (ta := ta) (rb := rb) (mk := mk) (aa := aa) (ax := ax) (ap := ap) (ss := rt_mx (cw / 2) 2) hx hS h6
    refine ⟨s', _, h, fun P hp => br_f z ⟨by decide, xa_larger (hX P hp)⟩, fun P v hs hp => br_f z ⟨by decide, nm_e ?_⟩⟩
    have k := hY P v hs hp
    refine br_c (fun y => ?_) (fun y => ?_)
    · rw [rt_mx_g y] at k; exact k
    · rw [rt_mx_l (rt_nle y)] at k; exact k
/-- the timeout, up to what is sent behind it -/
theorem la_to (hI : rt_IV nx wr tc rp sh rm rx ry hr dc bs re sd la dl lo ts fl rb aa ax ap) : ∃ (u : SX) (v : SY), (∀ P : SX → Prop, P u → wpX_timeOut P (ir, nw, cw, ss, ct, sa, nI wr, nI nx, nI tc, ms, sr, rv, mr, rx, rr, nI rm, nI sh, am, tp, pc, ps, ur, nI rp, rt, ds, un, tl, ro, lm, bs, re, sd, la, dl, lo, ep, ts, fl, ta)) ∧ (∀ (P : SY → Prop) (w : SY), (∀ Q : SY → Prop, Q w → wpY_send Q v) → P w → wpY_fire P (ir, nI wr, nI tc, nw, cw, ss, ct, sa, nI nx, sr, rv, mr, ry, rr, nI rm, nI sh, am, pc, ps, ur, nI rp, rt, ds, un, tl, ro, lm, dc, ms, ms, hr, tp, bs, rb, re, sd, la, dl, lo, ep, mk, ts, ta, aa, ax, ap) 3) ∧ rt_RL tc u v := by
  obtain ⟨⟨n1, n2, n3, n4, n5, n6⟩, hS, hZl, hZd, hZr, hL, hT, hK, hF, hB, hC⟩ := hI
  have hx : nx ≤ 64 := by omega
  have hZ2 : rt_IZ nx (rt_mk (rt_ou sd dl) lo nx) := rt_IZ_mk hZl (rt_IS_ou hS dl) nx
  by_cases z : sa = 0
  · obtain ⟨s', ss', h, hX, hY⟩ := ld_21 (wr := wr) (nx := nx) (tc := tc) (rm := rm) (sh := sh) (rp := rp) (ir := ir) (nw := nw) (cw := cw) (ss := ss) (ct := ct) (sa := sa) (ms := ms) (sr := sr) (rv := rv) (mr := mr) (rx := rx) (rr := rr) (am := am) (tp := tp) (rt := rt) (ds := ds) (un := un) (tl := tl) (lm := lm) (ry := ry) (hr := hr) (dc := dc) (bs := bs) (re := re) (sd := sd) (la := la) (dl := dl) (lo := lo) (ts := ts) (fl := fl) (ta := ta) (rb := rb) (mk := mk) (aa := aa) (ax := ax) (ap := ap) (ro := ro + 1) (pc := cw) (ps := ss) (ur := 0) (ep := rt_zr ep 64) hx hS n5
    exact ⟨_, _, fun P hp => nm_e (br_t z (xc_be (hX P hp))), fun P w hs hp => br_f (by decide) (br_f (by decide) (nm_e (br_t z (yc_be (hY P w hs hp))))), rt_RLi (rp := nx) (sh := s') ⟨⟨n1, n2, n3, hx, h, n6⟩, hS, hZ2, hZd, hZr, hL, hT, hK, hF, hB, hC⟩⟩
  · obtain ⟨s', ss', h, hX, hY⟩ := ld_21 (wr := wr) (nx := nx) (tc := tc) (rm := rm) (sh := sh) (rp := rp) (ir := ir) (nw := nw) (cw := cw) (ss := ss) (ct := ct) (sa := sa) (ms := ms) (sr := sr) (rv := rv) (mr := mr) (rx := rx) (rr := rr) (am := am) (tp := tp) (rt := rt) (ds := ds) (un := un) (tl := tl) (lm := lm) (ry := ry) (hr := hr) (dc := dc) (bs := bs) (re := re) (sd := sd) (la := la) (dl := dl) (lo := lo) (ts := ts) (fl := fl) (ta := ta) (rb := rb) (mk := mk) (aa := aa) (ax := ax) (ap := ap) (ro := ro + 1) (pc := pc) (ps := ps) (ur := ur) (ep := ep) hx hS n5
    exact ⟨_, _, fun P hp => nm_e (br_f z (hX P hp)), fun P w hs hp => br_f (by decide) (br_f (by decide) (nm_e (br_f z (hY P w hs hp)))), rt_RLi (rp := nx) (sh := s') ⟨⟨n1, n2, n3, hx, h, n6⟩, hS, hZ2, hZd, hZr, hL, hT, hK, hF, hB, hC⟩⟩
/-- the probe's transmission -/
theorem ld_pr {x : Int32} (hI : rt_IV nx wr tc rp sh rm rx ry hr dc bs re sd la dl lo ts fl rb aa ax ap) (hq : x = -1 ∨ ∃ j, j ≤ nx ∧ j < wr ∧ x = nI j) : ∃ (t : Nat) (u : SX) (v : SY), (∀ P : SX → Prop, P u → wX_probe_32 P x ir nw cw ss ct sa (nI wr) (nI nx) (nI tc) ms sr rv mr rx rr (nI rm) (nI sh) am tp pc ps ur (nI rp) rt ds un tl ro lm bs re sd la dl lo ep ts fl ta) ∧ (∀ (P : SY → Prop) (w : SY), (∀ Q : SY → Prop, Q w → wpY_send Q v) → P w → wY_fire_74 P x ir (nI wr) (nI tc) nw cw ss ct sa (nI nx) sr rv mr ry rr (nI rm) (nI sh) am pc ps ur (nI rp) rt ds un tl ro lm dc ms ms hr tp bs rb re sd la dl lo ep mk ts ta aa ax ap) ∧ rt_RL t u v := by
  have n3 : tc ≤ 256 := hI.1.2.2.1
  have NO : (tc = 256 ∨ x < 0) → ∃ (t : Nat) (u : SX) (v : SY), (∀ P : SX → Prop, P u → wX_probe_32 P x ir nw cw ss ct sa (nI wr) (nI nx) (nI tc) ms sr rv mr rx rr (nI rm) (nI sh) am tp pc ps ur (nI rp) rt ds un tl ro lm bs re sd la dl lo ep ts fl ta) ∧ (∀ (P : SY → Prop) (w : SY), (∀ Q : SY → Prop, Q w → wpY_send Q v) → P w → wY_fire_74 P x ir (nI wr) (nI tc) nw cw ss ct sa (nI nx) sr rv mr ry rr (nI rm) (nI sh) am pc ps ur (nI rp) rt ds un tl ro lm dc ms ms hr tp bs rb re sd la dl lo ep mk ts ta aa ax ap) ∧ rt_RL t u v := by
    intro h
    refine ⟨tc, (ir, nw, cw, ss, ct, sa, nI wr, nI nx, nI tc, ms, sr, rv, mr, rx, rr, nI rm, nI sh, am, 1, pc, ps, ur, nI rp, rt, ds, un, tl, ro, lm, bs, re, sd, la, dl, lo, ep, ts, fl, ta), (ir, nI wr, nI tc, nw, cw, ss, ct, sa, nI nx, sr, rv, mr, ry, rr, nI rm, nI sh, am, pc, ps, ur, nI rp, rt, ds, un, tl, ro, lm, dc, ms, ms, hr, 1, bs, rb, re, sd, la, dl, lo, ep, mk, ts, ta, aa, ax, ap), fun P hp => ?_, fun P w hs hp => ?_, rt_RLi hI⟩
    · exact xb_trZ h (xd_id0 (Or.inr (nI_le (Nat.le_refl _) (by omega))) (br_t rfl hp))
    · obtain ⟨ir_, wr_, tc_, nw_, cw_, ss_, ct_, sa_, nx_, sr_, rv_, mr_, ry_, rr_, rm_, sh_, am_, pc_, ps_, ur_, rp_, rt_, ds_, un_, tl_, ro_, lm_, dc_, ms_, mm_, hr_, tp_, bs_, rb_, re_, sd_, la_, dl_, lo_, ep_, mk_, ts_, ta_, aa_, ax_, ap_⟩ := w
      exact yb_trZ h (br_t (by decide) (hs _ hp))
  rcases Nat.lt_or_ge tc 256 with ht | ht
  · rcases hq with rfl | ⟨j, hj, hw, rfl⟩
    · exact NO (Or.inr (by decide))
    · obtain ⟨u1, v1, hX, hY, R⟩ := la_tr (wr := wr) (nx := nx) (tc := tc) (rm := rm) (sh := sh) (rp := rp) (ir := ir) (nw := nw) (cw := cw) (ss := ss) (ct := ct) (sa := sa) (ms := ms) (sr := sr) (rv := rv) (mr := mr) (rx := rx) (rr := rr) (am := am) (tp := tp) (pc := pc) (ps := ps) (ur := ur) (rt := rt) (ds := ds) (un := un) (tl := tl) (ro := ro) (lm := lm) (ry := ry) (hr := hr) (dc := dc) (bs := bs) (re := re) (sd := sd) (la := la) (dl := dl) (lo := lo) (ep := ep) (ts := ts) (fl := fl) (ta := ta) (rb := rb) (mk := mk) (aa := aa) (ax := ax) (ap := ap) hI ht hj hw
      obtain ⟨wr', nx', rm', sh', rp', ir', nw', cw', ss', ct', sa', ms', sr', rv', mr', rx', rr', am', tp', pc', ps', ur', rt', ds', un', tl', ro', lm', ry', hr', dc', bs', re', sd', la', dl', lo', ep', ts', fl', ta', rb', mk', aa', ax', ap', rfl, rfl, hI'⟩ := R
      obtain ⟨hN, hS, hZl, hZd, hZr, hL, hT, hK, hF, hB, hC⟩ := hI'
      have I3 := rt_RLi (tc := tc + 1) (wr := wr') (nx := nx') (rm := rm') (sh := sh') (rp := rp') (ir := ir') (nw := nw') (cw := cw') (ss := ss') (ct := ct') (sa := sa') (ms := ms') (sr := sr') (rv := rv') (mr := mr') (rx := rx') (rr := rr') (am := am') (pc := pc') (ps := ps') (ur := ur') (rt := rt') (ds := ds') (un := un') (tl := tl') (ro := ro') (lm := lm') (ry := ry') (hr := hr') (dc := dc') (bs := bs') (re := re') (sd := sd') (la := la') (dl := dl') (lo := lo') (ep := ep') (ts := ts') (ta := ta') (rb := rb') (mk := mk') (aa := aa') (ax := ax') (fl := upd fl' tc (fl' tc ||| 1024)) (ap := upd ap' tc 1) (tp := 1) ⟨hN, hS, hZl, hZd, hZr, hL, hT, hK, rt_IF_p hF (Nat.lt_succ_self tc), hB, hC⟩
      refine ⟨tc + 1, _, _, fun P hp => ?_, fun P w hs hp => ?_, I3⟩
      · exact hX _ (xd_id1 (by omega) (Nat.lt_succ_self tc) (br_f (by decide) ⟨rt_i2 ht, rt_i2 ht, nm_r (e' := upd fl' tc (fl' tc ||| 1024)) (by rw [rt_ua ht, rt_cp ht]) hp⟩))
      · obtain ⟨ir_, wr_, tc_, nw_, cw_, ss_, ct_, sa_, nx_, sr_, rv_, mr_, ry_, rr_, rm_, sh_, am_, pc_, ps_, ur_, rp_, rt_, ds_, un_, tl_, ro_, lm_, dc_, ms_, mm_, hr_, tp_, bs_, rb_, re_, sd_, la_, dl_, lo_, ep_, mk_, ts_, ta_, aa_, ax_, ap_⟩ := w
        exact hY _ (br_f (nI_pos (by omega)) ⟨rt_i2 ht, nm_r (e' := upd ap' tc 1) (by rw [rt_ua ht, rt_n1]) (hs _ hp)⟩)
  · exact NO (Or.inl (by omega))
theorem yd_go_l {P : SY → Prop} (hp : wY_fire_74 P (rt_gl (rt_ou sd dl) 64) ir (nI wr) (nI tc) nw cw ss ct sa (nI nx) sr rv mr ry rr (nI rm) (nI sh) am pc ps ur (nI rp) rt ds un tl ro lm dc ms ms hr tp bs rb re sd la dl lo ep mk ts ta aa ax ap) : ∀ d s, s + d = 64 → wY_fire_52 P ir (nI wr) (nI tc) nw cw ss ct sa (nI nx) sr rv mr ry rr (nI rm) (nI sh) am pc ps ur (nI rp) rt ds un tl ro lm dc ms ms hr tp bs rb re sd la dl lo ep mk ts ta aa ax ap (d + 1) (rt_gl (rt_ou sd dl) s) (nI s) := by
  intro d
  induction d with
  | zero =>
    intro s h
    obtain rfl : s = 64 := by omega
    exact br_t rt_64e hp
  | succ d ih =>
    intro s h
    have k := ih (s + 1) (by omega)
    refine br_f (rt_64 s (by omega)) (ya_out (by omega) (rt_br _ (fun e => ?_) (fun e => ?_)))
    · rw [rt_gl_f e] at k; exact nm_r (nI_1 s) k
    · rw [rt_gl_t e] at k; exact nm_r (nI_1 s) k
theorem la_pb (hI : rt_IV nx wr tc rp sh rm rx ry hr dc bs re sd la dl lo ts fl rb aa ax ap) : ∃ (t : Nat) (u : SX) (v : SY), (∀ P : SX → Prop, P u → wpX_probe P (ir, nw, cw, ss, ct, sa, nI wr, nI nx, nI tc, ms, sr, rv, mr, rx, rr, nI rm, nI sh, am, tp, pc, ps, ur, nI rp, rt, ds, un, tl, ro, lm, bs, re, sd, la, dl, lo, ep, ts, fl, ta)) ∧ (∀ (P : SY → Prop) (w : SY), (∀ Q : SY → Prop, Q w → wpY_send Q v) → P w → wpY_fire P (ir, nI wr, nI tc, nw, cw, ss, ct, sa, nI nx, sr, rv, mr, ry, rr, nI rm, nI sh, am, pc, ps, ur, nI rp, rt, ds, un, tl, ro, lm, dc, ms, ms, hr, tp, bs, rb, re, sd, la, dl, lo, ep, mk, ts, ta, aa, ax, ap) 2) ∧ rt_RL t u v := by
  have hI0 := hI
  obtain ⟨⟨n1, n2, n3, n4, n5, n6⟩, hS, hZl, hZd, hZr, hL, hT, hK, hF, hB, hC⟩ := hI0
  have hx : nx ≤ 64 := by omega
  obtain ⟨dd, hdd⟩ : ∃ d, 64 = nx + d := ⟨64 - nx, by omega⟩
  rcases Nat.lt_or_ge nx wr with h | h
  · obtain ⟨t, u, v, hX, hY, R⟩ := ld_pr (wr := wr) (nx := nx) (tc := tc) (rm := rm) (sh := sh) (rp := rp) (ir := ir) (nw := nw) (cw := cw) (ss := ss) (ct := ct) (sa := sa) (ms := ms) (sr := sr) (rv := rv) (mr := mr) (rx := rx) (rr := rr) (am := am) (tp := tp) (pc := pc) (ps := ps) (ur := ur) (rt := rt) (ds := ds) (un := un) (ro := ro) (lm := lm) (ry := ry) (hr := hr) (dc := dc) (bs := bs) (re := re) (sd := sd) (la := la) (dl := dl) (lo := lo) (ep := ep) (ts := ts) (fl := fl) (ta := ta) (rb := rb) (mk := mk) (aa := aa) (ax := ax) (ap := ap) (tl := tl + 1) (x := nI nx) hI (Or.inr ⟨nx, Nat.le_refl _, h, rfl⟩)
    have z : ¬ nI wr ≤ nI nx := nI_ge h (by omega)
    exact ⟨t, u, v, fun P hp => nm_e (br_f z (hX P hp)), fun P w hs hp => br_f (by decide) (br_t rfl (nm_e (br_f z (hY P w hs hp)))), R⟩
  · have e2 : rt_gl (rt_ou sd dl) 64 = rt_gl (rt_ou sd dl) nx := by rw [hdd]; exact rt_gl_hi (rt_IS_ou hS dl) dd
    obtain ⟨t, u, v, hX, hY, R⟩ := ld_pr (wr := wr) (nx := nx) (tc := tc) (rm := rm) (sh := sh) (rp := rp) (ir := ir) (nw := nw) (cw := cw) (ss := ss) (ct := ct) (sa := sa) (ms := ms) (sr := sr) (rv := rv) (mr := mr) (rx := rx) (rr := rr) (am := am) (tp := tp) (pc := pc) (ps := ps) (ur := ur) (rt := rt) (ds := ds) (un := un) (ro := ro) (lm := lm) (ry := ry) (hr := hr) (dc := dc) (bs := bs) (re := re) (sd := sd) (la := la) (dl := dl) (lo := lo) (ep := ep) (ts := ts) (fl := fl) (ta := ta) (rb := rb) (mk := mk) (aa := aa) (ax := ax) (ap := ap) (tl := tl + 1) (x := rt_gl (rt_ou sd dl) nx) hI ((rt_gl_or (rt_ou sd dl) nx).elim Or.inl (fun ⟨j, hj, _, e⟩ => Or.inr ⟨j, by omega, by omega, e⟩))
    have z : nI wr ≤ nI nx := nI_le h (by omega)
    refine ⟨t, u, v, fun P hp => nm_e (br_t z (xa_go hx (hX P hp))), fun P w hs hp => br_f (by decide) (br_t rfl (nm_e (br_t z ⟨65, ?_⟩))), R⟩
    have k := hY P w hs hp
    rw [← e2] at k
    exact yd_go_l k 64 0 (by omega)
theorem la_fi {K : Int32} (hI : rt_IV nx wr tc rp sh rm rx ry hr dc bs re sd la dl lo ts fl rb aa ax ap) (hk : K = 1 ∨ K = 2 ∨ K = 3) : ∃ (t : Nat) (u : SX) (v : SY), (∀ P : SX → Prop, P u → wpX_fire P (ir, nw, cw, ss, ct, sa, nI wr, nI nx, nI tc, ms, sr, rv, mr, rx, rr, nI rm, nI sh, am, tp, pc, ps, ur, nI rp, rt, ds, un, tl, ro, lm, bs, re, sd, la, dl, lo, ep, ts, fl, ta) K) ∧ (∀ P : SY → Prop, P v → wpY_fire P (ir, nI wr, nI tc, nw, cw, ss, ct, sa, nI nx, sr, rv, mr, ry, rr, nI rm, nI sh, am, pc, ps, ur, nI rp, rt, ds, un, tl, ro, lm, dc, ms, ms, hr, tp, bs, rb, re, sd, la, dl, lo, ep, mk, ts, ta, aa, ax, ap) K) ∧ rt_RL t u v := by
  rcases hk with rfl | rfl | rfl
  · obtain ⟨u1, v1, hX, hY, R⟩ := la_dt (wr := wr) (nx := nx) (tc := tc) (rm := rm) (sh := sh) (rp := rp) (ir := ir) (nw := nw) (cw := cw) (ss := ss) (ct := ct) (sa := sa) (ms := ms) (sr := sr) (rv := rv) (mr := mr) (rx := rx) (rr := rr) (am := am) (tp := tp) (pc := pc) (ps := ps) (ur := ur) (rt := rt) (ds := ds) (un := un) (tl := tl) (ro := ro) (lm := lm) (ry := ry) (hr := hr) (dc := dc) (bs := bs) (re := re) (sd := sd) (la := la) (dl := dl) (lo := lo) (ep := ep) (ts := ts) (fl := fl) (ta := ta) (rb := rb) (mk := mk) (aa := aa) (ax := ax) (ap := ap) hI
    obtain ⟨wr', nx', rm', sh', rp', ir', nw', cw', ss', ct', sa', ms', sr', rv', mr', rx', rr', am', tp', pc', ps', ur', rt', ds', un', tl', ro', lm', ry', hr', dc', bs', re', sd', la', dl', lo', ep', ts', fl', ta', rb', mk', aa', ax', ap', rfl, rfl, hI'⟩ := R
    obtain ⟨t, u, v, kX, kY, R'⟩ := la_sd (wr := wr') (nx := nx') (rm := rm') (sh := sh') (rp := rp') (ir := ir') (nw := nw') (cw := cw') (ss := ss') (ct := ct') (sa := sa') (ms := ms') (sr := sr') (rv := rv') (mr := mr') (rx := rx') (rr := rr') (am := am') (tp := tp') (pc := pc') (ps := ps') (ur := ur') (rt := rt') (ds := ds') (un := un') (tl := tl') (ro := ro') (lm := lm') (ry := ry') (hr := hr') (dc := dc') (bs := bs') (re := re') (sd := sd') (la := la') (dl := dl') (lo := lo') (ep := ep') (ts := ts') (fl := fl') (ta := ta') (rb := rb') (mk := mk') (aa := aa') (ax := ax') (ap := ap') hI'
    obtain ⟨wq, nq, rq, sq, pq, irq, nwq, cwq, ssq, ctq, saq, msq, srq, rvq, mrq, rxq, rrq, amq, tpq, pcq, psq, urq, rtq, dsq, unq, tlq, roq, lmq, ryq, hrq, dcq, bsq, req, sdq, laq, dlq, loq, epq, tsq, flq, taq, rbq, mkq, aaq, axq, apq, rfl, rfl, hq⟩ := R'
    exact ⟨t, _, _, fun P hp => br_t rfl (hX _ (kX _ hp)), fun P hp => br_t rfl (hY _ (kY _ hp)), ⟨wq, nq, rq, sq, pq, irq, nwq, cwq, ssq, ctq, saq, msq, srq, rvq, mrq, rxq, rrq, amq, tpq, pcq, psq, urq, rtq, dsq, unq, tlq, roq, lmq, ryq, hrq, dcq, bsq, req, sdq, laq, dlq, loq, epq, tsq, flq, taq, rbq, mkq, aaq, axq, apq, rfl, rfl, hq⟩⟩
  · obtain ⟨t1, u1, v1, hX, hY, R⟩ := la_pb (wr := wr) (nx := nx) (tc := tc) (rm := rm) (sh := sh) (rp := rp) (ir := ir) (nw := nw) (cw := cw) (ss := ss) (ct := ct) (sa := sa) (ms := ms) (sr := sr) (rv := rv) (mr := mr) (rx := rx) (rr := rr) (am := am) (tp := tp) (pc := pc) (ps := ps) (ur := ur) (rt := rt) (ds := ds) (un := un) (tl := tl) (ro := ro) (lm := lm) (ry := ry) (hr := hr) (dc := dc) (bs := bs) (re := re) (sd := sd) (la := la) (dl := dl) (lo := lo) (ep := ep) (ts := ts) (fl := fl) (ta := ta) (rb := rb) (mk := mk) (aa := aa) (ax := ax) (ap := ap) hI
    obtain ⟨wr', nx', rm', sh', rp', ir', nw', cw', ss', ct', sa', ms', sr', rv', mr', rx', rr', am', tp', pc', ps', ur', rt', ds', un', tl', ro', lm', ry', hr', dc', bs', re', sd', la', dl', lo', ep', ts', fl', ta', rb', mk', aa', ax', ap', rfl, rfl, hI'⟩ := R
    obtain ⟨t, u, v, kX, kY, R'⟩ := la_sd (wr := wr') (nx := nx') (rm := rm') (sh := sh') (rp := rp') (ir := ir') (nw := nw') (cw := cw') (ss := ss') (ct := ct') (sa := sa') (ms := ms') (sr := sr') (rv := rv') (mr := mr') (rx := rx') (rr := rr') (am := am') (tp := tp') (pc := pc') (ps := ps') (ur := ur') (rt := rt') (ds := ds') (un := un') (tl := tl') (ro := ro') (lm := lm') (ry := ry') (hr := hr') (dc := dc') (bs := bs') (re := re') (sd := sd') (la := la') (dl := dl') (lo := lo') (ep := ep') (ts := ts') (fl := fl') (ta := ta') (rb := rb') (mk := mk') (aa := aa') (ax := ax') (ap := ap') hI'
    obtain ⟨wq, nq, rq, sq, pq, irq, nwq, cwq, ssq, ctq, saq, msq, srq, rvq, mrq, rxq, rrq, amq, tpq, pcq, psq, urq, rtq, dsq, unq, tlq, roq, lmq, ryq, hrq, dcq, bsq, req, sdq, laq, dlq, loq, epq, tsq, flq, taq, rbq, mkq, aaq, axq, apq, rfl, rfl, hq⟩ := R'
    exact ⟨t, _, _, fun P hp => br_f (by decide) (br_t rfl (hX _ (kX _ hp))), fun P hp => hY P _ kY hp, ⟨wq, nq, rq, sq, pq, irq, nwq, cwq, ssq, ctq, saq, msq, srq, rvq, mrq, rxq, rrq, amq, tpq, pcq, psq, urq, rtq, dsq, unq, tlq, roq, lmq, ryq, hrq, dcq, bsq, req, sdq, laq, dlq, loq, epq, tsq, flq, taq, rbq, mkq, aaq, axq, apq, rfl, rfl, hq⟩⟩
  · obtain ⟨u1, v1, hX, hY, R⟩ := la_to (wr := wr) (nx := nx) (tc := tc) (rm := rm) (sh := sh) (rp := rp) (ir := ir) (nw := nw) (cw := cw) (ss := ss) (ct := ct) (sa := sa) (ms := ms) (sr := sr) (rv := rv) (mr := mr) (rx := rx) (rr := rr) (am := am) (tp := tp) (pc := pc) (ps := ps) (ur := ur) (rt := rt) (ds := ds) (un := un) (tl := tl) (ro := ro) (lm := lm) (ry := ry) (hr := hr) (dc := dc) (bs := bs) (re := re) (sd := sd) (la := la) (dl := dl) (lo := lo) (ep := ep) (ts := ts) (fl := fl) (ta := ta) (rb := rb) (mk := mk) (aa := aa) (ax := ax) (ap := ap) hI
    obtain ⟨wr', nx', rm', sh', rp', ir', nw', cw', ss', ct', sa', ms', sr', rv', mr', rx', rr', am', tp', pc', ps', ur', rt', ds', un', tl', ro', lm', ry', hr', dc', bs', re', sd', la', dl', lo', ep', ts', fl', ta', rb', mk', aa', ax', ap', rfl, rfl, hI'⟩ := R
    obtain ⟨t, u, v, kX, kY, R'⟩ := la_sd (wr := wr') (nx := nx') (rm := rm') (sh := sh') (rp := rp') (ir := ir') (nw := nw') (cw := cw') (ss := ss') (ct := ct') (sa := sa') (ms := ms') (sr := sr') (rv := rv') (mr := mr') (rx := rx') (rr := rr') (am := am') (tp := tp') (pc := pc') (ps := ps') (ur := ur') (rt := rt') (ds := ds') (un := un') (tl := tl') (ro := ro') (lm := lm') (ry := ry') (hr := hr') (dc := dc') (bs := bs') (re := re') (sd := sd') (la := la') (dl := dl') (lo := lo') (ep := ep') (ts := ts') (fl := fl') (ta := ta') (rb := rb') (mk := mk') (aa := aa') (ax := ax') (ap := ap') hI'
    obtain ⟨wq, nq, rq, sq, pq, irq, nwq, cwq, ssq, ctq, saq, msq, srq, rvq, mrq, rxq, rrq, amq, tpq, pcq, psq, urq, rtq, dsq, unq, tlq, roq, lmq, ryq, hrq, dcq, bsq, req, sdq, laq, dlq, loq, epq, tsq, flq, taq, rbq, mkq, aaq, axq, apq, rfl, rfl, hq⟩ := R'
    exact ⟨t, _, _, fun P hp => br_f (by decide) (br_f (by decide) (hX _ (kX _ hp))), fun P hp => hY P _ kY hp, ⟨wq, nq, rq, sq, pq, irq, nwq, cwq, ssq, ctq, saq, msq, srq, rvq, mrq, rxq, rrq, amq, tpq, pcq, psq, urq, rtq, dsq, unq, tlq, roq, lmq, ryq, hrq, dcq, bsq, req, sdq, laq, dlq, loq, epq, tsq, flq, taq, rbq, mkq, aaq, axq, apq, rfl, rfl, hq⟩⟩
end
theorem la_tk_l {g : Int32} : ∀ d : Nat, ∀ (wr nx tc rm sh rp : Nat) (ir nw cw ss ct sa ms sr rv mr rx rr am tp pc ps ur rt ds un tl ro lm ry hr dc : Int32) (bs re sd la dl lo ep ts fl ta rb mk aa ax ap : Nat → Int32), rt_IV nx wr tc rp sh rm rx ry hr dc bs re sd la dl lo ts fl rb aa ax ap → ∀ f : Nat, f + d = 64 → ∃ (t : Nat) (r : Int32) (u : SX) (v : SY), (∀ (P : Int32 → SX → Prop) (n : Nat), P r u → d < n → wX_tick_16 P g n (nI f) ir nw cw ss ct sa (nI wr) (nI nx) (nI tc) ms sr rv mr rx rr (nI rm) (nI sh) am tp pc ps ur (nI rp) rt ds un tl ro lm bs re sd la dl lo ep ts fl ta) ∧ (∀ (P : Int32 → SY → Prop) (n : Nat), P r v → d < n → wY_tick_32 P g n (nI f) (nI f) ir (nI wr) (nI tc) nw cw ss ct sa (nI nx) sr rv mr ry rr (nI rm) (nI sh) am pc ps ur (nI rp) rt ds un tl ro lm dc ms ms hr tp bs rb re sd la dl lo ep mk ts ta aa ax ap) ∧ rt_RL t u v := by
  intro d
  induction d with
  | zero =>
    intro wr nx tc rm sh rp ir nw cw ss ct sa ms sr rv mr rx rr am tp pc ps ur rt ds un tl ro lm ry hr dc bs re sd la dl lo ep ts fl ta rb mk aa ax ap hI f hf
    obtain rfl : f = 64 := by omega
    refine ⟨tc, nI 64, (ir, g, cw, ss, ct, sa, nI wr, nI nx, nI tc, ms, sr, rv, mr, rx, rr, nI rm, nI sh, am, tp, pc, ps, ur, nI rp, rt, ds, un, tl, ro, lm, bs, re, sd, la, dl, lo, ep, ts, fl, ta), (ir, nI wr, nI tc, g, cw, ss, ct, sa, nI nx, sr, rv, mr, ry, rr, nI rm, nI sh, am, pc, ps, ur, nI rp, rt, ds, un, tl, ro, lm, dc, ms, ms, hr, tp, bs, rb, re, sd, la, dl, lo, ep, mk, ts, ta, aa, ax, ap), fun P n hp hn => ?_, fun P n hp hn => ?_, rt_RLi hI⟩
    · obtain ⟨m, rfl⟩ : ∃ m, n = m + 1 := ⟨n - 1, by omega⟩
      exact br_t rt_64e hp
    · obtain ⟨m, rfl⟩ : ∃ m, n = m + 1 := ⟨n - 1, by omega⟩
      exact br_t rt_64e hp
  | succ d ih =>
    intro wr nx tc rm sh rp ir nw cw ss ct sa ms sr rv mr rx rr am tp pc ps ur rt ds un tl ro lm ry hr dc bs re sd la dl lo ep ts fl ta rb mk aa ax ap hI f hf
    have f6 := rt_64 f (by omega)
    obtain ⟨K, A, hK, xk, xt, yk, yt⟩ := la_tm (wr := wr) (nx := nx) (tc := tc) (rm := rm) (sh := sh) (rp := rp) (ir := ir) (nw := nw) (cw := cw) (ss := ss) (ct := ct) (sa := sa) (ms := ms) (sr := sr) (rv := rv) (mr := mr) (rx := rx) (rr := rr) (am := am) (tp := tp) (pc := pc) (ps := ps) (ur := ur) (rt := rt) (ds := ds) (un := un) (tl := tl) (ro := ro) (lm := lm) (ry := ry) (hr := hr) (dc := dc) (bs := bs) (re := re) (sd := sd) (la := la) (dl := dl) (lo := lo) (ep := ep) (ts := ts) (fl := fl) (ta := ta) (rb := rb) (mk := mk) (aa := aa) (ax := ax) (ap := ap) hI
    by_cases k0 : K = 0
    · refine ⟨tc, nI f, (ir, g, cw, ss, ct, sa, nI wr, nI nx, nI tc, ms, sr, rv, mr, rx, rr, nI rm, nI sh, am, tp, pc, ps, ur, nI rp, rt, ds, un, tl, ro, lm, bs, re, sd, la, dl, lo, ep, ts, fl, ta), (ir, nI wr, nI tc, g, cw, ss, ct, sa, nI nx, sr, rv, mr, ry, rr, nI rm, nI sh, am, pc, ps, ur, nI rp, rt, ds, un, tl, ro, lm, dc, ms, ms, hr, tp, bs, rb, re, sd, la, dl, lo, ep, mk, ts, ta, aa, ax, ap), fun P n hp hn => ?_, fun P n hp hn => ?_, rt_RLi hI⟩
      · obtain ⟨m, rfl⟩ : ∃ m, n = m + 1 := ⟨n - 1, by omega⟩
        exact br_f f6 (xk _ (xt _ (br_t k0 hp)))
      · obtain ⟨m, rfl⟩ : ∃ m, n = m + 1 := ⟨n - 1, by omega⟩
        exact br_f f6 (yk _ (br_t k0 hp))
    by_cases a0 : A ≤ g
    · obtain ⟨t1, u1, v1, hX, hY, R⟩ := la_fi (wr := wr) (nx := nx) (tc := tc) (rm := rm) (sh := sh) (rp := rp) (ir := ir) (cw := cw) (ss := ss) (ct := ct) (sa := sa) (ms := ms) (sr := sr) (rv := rv) (mr := mr) (rx := rx) (rr := rr) (am := am) (tp := tp) (pc := pc) (ps := ps) (ur := ur) (rt := rt) (ds := ds) (un := un) (tl := tl) (ro := ro) (lm := lm) (ry := ry) (hr := hr) (dc := dc) (bs := bs) (re := re) (sd := sd) (la := la) (dl := dl) (lo := lo) (ep := ep) (ts := ts) (fl := fl) (ta := ta) (rb := rb) (mk := mk) (aa := aa) (ax := ax) (ap := ap) (nw := rt_mx nw A) (K := K) hI (hK.elim (fun e => absurd e k0) id)
      obtain ⟨wr', nx', rm', sh', rp', ir', nw', cw', ss', ct', sa', ms', sr', rv', mr', rx', rr', am', tp', pc', ps', ur', rt', ds', un', tl', ro', lm', ry', hr', dc', bs', re', sd', la', dl', lo', ep', ts', fl', ta', rb', mk', aa', ax', ap', rfl, rfl, hI'⟩ := R
      obtain ⟨t, r, u, v, kX, kY, R'⟩ := ih wr' nx' t1 rm' sh' rp' ir' nw' cw' ss' ct' sa' ms' sr' rv' mr' rx' rr' am' tp' pc' ps' ur' rt' ds' un' tl' ro' lm' ry' hr' dc' bs' re' sd' la' dl' lo' ep' ts' fl' ta' rb' mk' aa' ax' ap' hI' (f + 1) (by omega)
      refine ⟨t, r, u, v, fun P n hp hn => ?_, fun P n hp hn => ?_, R'⟩
      · obtain ⟨m, rfl⟩ : ∃ m, n = m + 1 := ⟨n - 1, by omega⟩
        exact br_f f6 (xk _ (xt _ (br_f k0 (br_t a0 (xa_larger (hX _ (nm_r (nI_1 f) (kX P m hp (by omega)))))))))
      · obtain ⟨m, rfl⟩ : ∃ m, n = m + 1 := ⟨n - 1, by omega⟩
        refine br_f f6 (yk _ (br_f k0 (yt _ (br_t a0 ?_))))
        refine br_c (fun z => ?_) (fun z => ?_)
        · rw [rt_mx_g z] at hY
          exact hY _ (nm_r (nI_1 f) (nm_r (nI_1 f) (kY P m hp (by omega))))
        · rw [rt_mx_l (rt_nle z)] at hY
          exact hY _ (nm_r (nI_1 f) (nm_r (nI_1 f) (kY P m hp (by omega))))
    · refine ⟨tc, nI f, (ir, g, cw, ss, ct, sa, nI wr, nI nx, nI tc, ms, sr, rv, mr, rx, rr, nI rm, nI sh, am, tp, pc, ps, ur, nI rp, rt, ds, un, tl, ro, lm, bs, re, sd, la, dl, lo, ep, ts, fl, ta), (ir, nI wr, nI tc, g, cw, ss, ct, sa, nI nx, sr, rv, mr, ry, rr, nI rm, nI sh, am, pc, ps, ur, nI rp, rt, ds, un, tl, ro, lm, dc, ms, ms, hr, tp, bs, rb, re, sd, la, dl, lo, ep, mk, ts, ta, aa, ax, ap), fun P n hp hn => ?_, fun P n hp hn => ?_, rt_RLi hI⟩
      · obtain ⟨m, rfl⟩ : ∃ m, n = m + 1 := ⟨n - 1, by omega⟩
        exact br_f f6 (xk _ (xt _ (br_f k0 (br_f a0 hp))))
      · obtain ⟨m, rfl⟩ : ∃ m, n = m + 1 := ⟨n - 1, by omega⟩
        exact br_f f6 (yk _ (br_f k0 (yt _ (br_f a0 hp))))
