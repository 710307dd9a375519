/-! the calls: arrivals -/
section
variable {ir nw cw ss ct sa ms sr rv mr rx rr am tp pc ps ur rt ds un tl ro lm : Int32} {wr nx tc rm sh rp : Nat} {bs re sd la dl lo ep ts fl ta : Nat → Int32} {ry hr dc : Int32} {rb mk aa ax ap : Nat → Int32} {j k : Nat}
theorem xe_no {P : Int32 → SX → Prop} {x : Int32} (h : x < 0 ∨ nI tc ≤ x) (hp : P (-1) (ir, nw, cw, ss, ct, sa, nI wr, nI nx, nI tc, ms, sr, rv, mr, rx, rr, nI rm, nI sh, am, tp, pc, ps, ur, nI rp, rt, ds, un, tl, ro, lm, bs, re, sd, la, dl, lo, ep, ts, fl, ta)) : wpX_arrive P (ir, nw, cw, ss, ct, sa, nI wr, nI nx, nI tc, ms, sr, rv, mr, rx, rr, nI rm, nI sh, am, tp, pc, ps, ur, nI rp, rt, ds, un, tl, ro, lm, bs, re, sd, la, dl, lo, ep, ts, fl, ta) x := by
  unfold wpX_arrive
  exact xd_id0 h (br_t rfl hp)
theorem xe_old {P : Int32 → SX → Prop} (ht : tc ≤ 256) (hj : j < tc) (hf : ¬ fl j &&& 256 = 0) (hp : P (-1) (ir, nw, cw, ss, ct, sa, nI wr, nI nx, nI tc, ms, sr, rv, mr, rx, rr, nI rm, nI sh, am, tp, pc, ps, ur, nI rp, rt, ds, un, tl, ro, lm, bs, re, sd, la, dl, lo, ep, ts, fl, ta)) : wpX_arrive P (ir, nw, cw, ss, ct, sa, nI wr, nI nx, nI tc, ms, sr, rv, mr, rx, rr, nI rm, nI sh, am, tp, pc, ps, ur, nI rp, rt, ds, un, tl, ro, lm, bs, re, sd, la, dl, lo, ep, ts, fl, ta) (nI j) := by
  unfold wpX_arrive
  exact xd_id1 ht hj (br_f (by decide) ⟨rt_i2 (by omega), br_f (by rw [rt_cp (by omega)]; exact hf) hp⟩)
theorem xe_new {P : Int32 → SX → Prop} (ht : tc ≤ 256) (hj : j < tc) (hf : fl j &&& 256 = 0) (hk : k < 64) (ek : ts j = nI k) (hr0 : re k = 0) (hp : P 1 (ir, nw, cw, ss, ct, sa, nI wr, nI nx, nI tc, ms, sr, rv, mr, rx, rr, nI rm, nI sh, am, tp, pc, ps, ur, nI rp, rt, ds, un, tl, ro, lm, bs, upd re k 1, sd, la, dl, lo, ep, ts, upd fl j (fl j ||| 256), ta)) : wpX_arrive P (ir, nw, cw, ss, ct, sa, nI wr, nI nx, nI tc, ms, sr, rv, mr, rx, rr, nI rm, nI sh, am, tp, pc, ps, ur, nI rp, rt, ds, un, tl, ro, lm, bs, re, sd, la, dl, lo, ep, ts, fl, ta) (nI j) := by
  unfold wpX_arrive
  have ji : vp_in (nI j) 256 := rt_i2 (by omega)
  exact xd_id1 ht hj (br_f (by decide) ⟨ji, br_t (by rw [rt_cp (by omega)]; exact hf) ⟨ji, nm_r (e' := nI k) (by rw [rt_cp (by omega)]; exact ek) ⟨ji, ji, nm_r (e' := upd fl j (fl j ||| 256)) (by rw [rt_ua (by omega), rt_cp (by omega)]) ⟨rt_in hk, br_t (by rw [rt_cp (by omega)]; exact hr0) ⟨rt_in hk, nm_r (e' := upd re k 1) (by rw [rt_ua (by omega), rt_n1]) hp⟩⟩⟩⟩⟩)
theorem xe_dup {P : Int32 → SX → Prop} (ht : tc ≤ 256) (hj : j < tc) (hf : fl j &&& 256 = 0) (hk : k < 64) (ek : ts j = nI k) (hr0 : ¬ re k = 0) (hp : P 2 (ir, nw, cw, ss, ct, sa, nI wr, nI nx, nI tc, ms, sr, rv, mr, rx, rr, nI rm, nI sh, am, tp, pc, ps, ur, nI rp, rt, ds, un, tl, ro, lm, bs, re, sd, la, dl, lo, ep, ts, upd fl j (fl j ||| 256), ta)) : wpX_arrive P (ir, nw, cw, ss, ct, sa, nI wr, nI nx, nI tc, ms, sr, rv, mr, rx, rr, nI rm, nI sh, am, tp, pc, ps, ur, nI rp, rt, ds, un, tl, ro, lm, bs, re, sd, la, dl, lo, ep, ts, fl, ta) (nI j) := by
  unfold wpX_arrive
  have ji : vp_in (nI j) 256 := rt_i2 (by omega)
  exact xd_id1 ht hj (br_f (by decide) ⟨ji, br_t (by rw [rt_cp (by omega)]; exact hf) ⟨ji, nm_r (e' := nI k) (by rw [rt_cp (by omega)]; exact ek) ⟨ji, ji, nm_r (e' := upd fl j (fl j ||| 256)) (by rw [rt_ua (by omega), rt_cp (by omega)]) ⟨rt_in hk, br_f (by rw [rt_cp (by omega)]; exact hr0) hp⟩⟩⟩⟩)
theorem ye_no {P : Int32 → SY → Prop} {x w : Int32} (h : x < 0 ∨ nI tc ≤ x) (hp : P (-1) (ir, nI wr, nI tc, nw, cw, ss, ct, sa, nI nx, sr, rv, mr, ry, rr, nI rm, nI sh, am, pc, ps, ur, nI rp, rt, ds, un, tl, ro, lm, dc, ms, ms, hr, tp, bs, rb, re, sd, la, dl, lo, ep, mk, ts, ta, aa, ax, ap)) : wpY_arrive P (ir, nI wr, nI tc, nw, cw, ss, ct, sa, nI nx, sr, rv, mr, ry, rr, nI rm, nI sh, am, pc, ps, ur, nI rp, rt, ds, un, tl, ro, lm, dc, ms, ms, hr, tp, bs, rb, re, sd, la, dl, lo, ep, mk, ts, ta, aa, ax, ap) x w := by
  by_cases z : x < 0
  · exact br_t z hp
  · exact br_f z (br_t (h.elim (fun y => absurd y z) id) hp)
theorem ye_old {P : Int32 → SY → Prop} {w : Int32} (ht : tc ≤ 256) (hj : j < tc) (hf : ¬ aa j = 0) (hp : P (-1) (ir, nI wr, nI tc, nw, cw, ss, ct, sa, nI nx, sr, rv, mr, ry, rr, nI rm, nI sh, am, pc, ps, ur, nI rp, rt, ds, un, tl, ro, lm, dc, ms, ms, hr, tp, bs, rb, re, sd, la, dl, lo, ep, mk, ts, ta, aa, ax, ap)) : wpY_arrive P (ir, nI wr, nI tc, nw, cw, ss, ct, sa, nI nx, sr, rv, mr, ry, rr, nI rm, nI sh, am, pc, ps, ur, nI rp, rt, ds, un, tl, ro, lm, dc, ms, ms, hr, tp, bs, rb, re, sd, la, dl, lo, ep, mk, ts, ta, aa, ax, ap) (nI j) w :=
  br_f (nI_pos (by omega)) (br_f (nI_ge hj (by omega)) ⟨rt_i2 (by omega), br_f (by rw [rt_cp (by omega)]; exact hf) hp⟩)
theorem ye_new {P : Int32 → SY → Prop} {w : Int32} (ht : tc ≤ 256) (hj : j < tc) (hf : aa j = 0) (hk : k < 64) (ek : ts j = nI k) (hr0 : re k = 0) (hp : wY_arrive_69 P w (nI k) 0 ir (nI wr) (nI tc) nw cw ss ct sa (nI nx) sr rv mr ry rr (nI rm) (nI sh) am pc ps ur (nI rp) rt ds un tl ro lm dc ms ms hr tp bs (upd rb k (bs k)) (upd re k 1) sd la dl lo ep mk ts ta (upd aa j 1) ax ap) : wpY_arrive P (ir, nI wr, nI tc, nw, cw, ss, ct, sa, nI nx, sr, rv, mr, ry, rr, nI rm, nI sh, am, pc, ps, ur, nI rp, rt, ds, un, tl, ro, lm, dc, ms, ms, hr, tp, bs, rb, re, sd, la, dl, lo, ep, mk, ts, ta, aa, ax, ap) (nI j) w := by
  have ji : vp_in (nI j) 256 := rt_i2 (by omega)
  exact br_f (nI_pos (by omega)) (br_f (nI_ge hj (by omega)) ⟨ji, br_t (by rw [rt_cp (by omega)]; exact hf) ⟨ji, nm_r (e' := upd aa j 1) (by rw [rt_ua (by omega), rt_n1]) ⟨ji, nm_r (e' := nI k) (by rw [rt_cp (by omega)]; exact ek) ⟨rt_in hk, nm_r (e' := 0) (by rw [rt_cp (by omega)]; exact hr0) (br_t rfl ⟨rt_in hk, nm_r (e' := upd re k 1) (by rw [rt_ua (by omega), rt_n1]) ⟨rt_in hk, rt_in hk, nm_r (e' := upd rb k (bs k)) (by rw [rt_ua (by omega), rt_cp (by omega)]) hp⟩⟩)⟩⟩⟩⟩)
theorem ye_dup {P : Int32 → SY → Prop} {w : Int32} (ht : tc ≤ 256) (hj : j < tc) (hf : aa j = 0) (hk : k < 64) (ek : ts j = nI k) (hr0 : ¬ re k = 0) (hp : wY_arrive_69 P w (nI k) (re k) ir (nI wr) (nI tc) nw cw ss ct sa (nI nx) sr rv mr ry rr (nI rm) (nI sh) am pc ps ur (nI rp) rt ds un tl ro lm dc ms ms hr tp bs rb re sd la dl lo ep mk ts ta (upd aa j 1) ax ap) : wpY_arrive P (ir, nI wr, nI tc, nw, cw, ss, ct, sa, nI nx, sr, rv, mr, ry, rr, nI rm, nI sh, am, pc, ps, ur, nI rp, rt, ds, un, tl, ro, lm, dc, ms, ms, hr, tp, bs, rb, re, sd, la, dl, lo, ep, mk, ts, ta, aa, ax, ap) (nI j) w := by
  have ji : vp_in (nI j) 256 := rt_i2 (by omega)
  exact br_f (nI_pos (by omega)) (br_f (nI_ge hj (by omega)) ⟨ji, br_t (by rw [rt_cp (by omega)]; exact hf) ⟨ji, nm_r (e' := upd aa j 1) (by rw [rt_ua (by omega), rt_n1]) ⟨ji, nm_r (e' := nI k) (by rw [rt_cp (by omega)]; exact ek) ⟨rt_in hk, nm_r (e' := re k) (by rw [rt_cp (by omega)]) (br_f hr0 hp)⟩⟩⟩⟩)
theorem rt_IB_n {re rb bs : Nat → Int32} {k : Nat} (h : rt_IB re rb bs) : rt_IB (upd re k 1) (upd rb k (bs k)) bs := fun s hs => by
  by_cases z : s = k
  · subst z; exact pk_us
  · rw [pk_un z] at hs ⊢; exact h s hs
theorem la_dn {x : Int32} (hI : rt_IV nx wr tc rp sh rm rx ry hr dc bs re sd la dl lo ts fl rb aa ax ap) : ∃ (t : Nat) (r : Int32) (u : SX) (v : SY), (∀ P : Int32 → SX → Prop, P r u → wpX_deliverNoAck P (ir, nw, cw, ss, ct, sa, nI wr, nI nx, nI tc, ms, sr, rv, mr, rx, rr, nI rm, nI sh, am, tp, pc, ps, ur, nI rp, rt, ds, un, tl, ro, lm, bs, re, sd, la, dl, lo, ep, ts, fl, ta) x) ∧ (∀ P : Int32 → SY → Prop, P r v → wpY_deliverNoAck P (ir, nI wr, nI tc, nw, cw, ss, ct, sa, nI nx, sr, rv, mr, ry, rr, nI rm, nI sh, am, pc, ps, ur, nI rp, rt, ds, un, tl, ro, lm, dc, ms, ms, hr, tp, bs, rb, re, sd, la, dl, lo, ep, mk, ts, ta, aa, ax, ap) x) ∧ rt_RL t u v := by
  have hI0 := hI
  obtain ⟨⟨n1, n2, n3, n4, n5, n6⟩, hS, hZl, hZd, hZr, hL, hT, hK, hF, hB, hC⟩ := hI0
  have NO : (x < 0 ∨ nI tc ≤ x) → ∃ (t : Nat) (r : Int32) (u : SX) (v : SY), (∀ P : Int32 → SX → Prop, P r u → wpX_deliverNoAck P (ir, nw, cw, ss, ct, sa, nI wr, nI nx, nI tc, ms, sr, rv, mr, rx, rr, nI rm, nI sh, am, tp, pc, ps, ur, nI rp, rt, ds, un, tl, ro, lm, bs, re, sd, la, dl, lo, ep, ts, fl, ta) x) ∧ (∀ P : Int32 → SY → Prop, P r v → wpY_deliverNoAck P (ir, nI wr, nI tc, nw, cw, ss, ct, sa, nI nx, sr, rv, mr, ry, rr, nI rm, nI sh, am, pc, ps, ur, nI rp, rt, ds, un, tl, ro, lm, dc, ms, ms, hr, tp, bs, rb, re, sd, la, dl, lo, ep, mk, ts, ta, aa, ax, ap) x) ∧ rt_RL t u v := by
    intro h
    refine ⟨tc, -1, (ir, nw, cw, ss, ct, sa, nI wr, nI nx, nI tc, ms, sr, rv, mr, rx, rr, nI rm, nI sh, am, tp, pc, ps, ur, nI rp, rt, ds, un, tl, ro, lm, bs, re, sd, la, dl, lo, ep, ts, fl, ta), (ir, nI wr, nI tc, nw, cw, ss, ct, sa, nI nx, sr, rv, mr, ry, rr, nI rm, nI sh, am, pc, ps, ur, nI rp, rt, ds, un, tl, ro, lm, dc, ms, ms, hr, tp, bs, rb, re, sd, la, dl, lo, ep, mk, ts, ta, aa, ax, ap), fun P hp => ?_, fun P hp => ?_, rt_RLi hI⟩
    · unfold wpX_deliverNoAck
      exact xe_no h hp
    · unfold wpY_deliverNoAck
      exact ye_no h hp
  rcases pk_ix x (n := tc) (by omega) with h | h | ⟨j, hj, rfl⟩
  · exact NO (Or.inl h)
  · exact NO (Or.inr h)
  · have hA := rt_IF_arr hF hj
    obtain ⟨k, hk, ek⟩ := hT j hj
    by_cases a0 : aa j = 0
    · by_cases r0 : re k = 0
      · refine ⟨tc, 1, (ir, nw, cw, ss, ct, sa, nI wr, nI nx, nI tc, ms, sr, rv, mr, rx, rr, nI rm, nI sh, am, tp, pc, ps, ur, nI rp, rt, ds, un, tl, ro, lm, bs, upd re k 1, sd, la, dl, lo, ep, ts, upd fl j (fl j ||| 256), ta), (ir, nI wr, nI tc, nw, cw, ss, ct, sa, nI nx, sr, rv, mr, ry, rr, nI rm, nI sh, am, pc, ps, ur, nI rp, rt, ds, un, tl, ro, lm, dc, ms, ms, hr, tp, bs, upd rb k (bs k), upd re k 1, sd, la, dl, lo, ep, mk, ts, ta, upd aa j 1, ax, ap), fun P hp => ?_, fun P hp => ?_, rt_RLi ⟨⟨n1, n2, n3, n4, n5, n6⟩, hS, hZl, hZd, rt_IZ_u hZr hk 1, hL, hT, hK, rt_IF_a hF hj, rt_IB_n hB, hC⟩⟩
        · unfold wpX_deliverNoAck
          exact xe_new n3 hj (hA.mpr a0) (by omega) ek r0 hp
        · unfold wpY_deliverNoAck
          exact ye_new n3 hj a0 (by omega) ek r0 (br_t rfl (br_t rfl hp))
      · refine ⟨tc, 2, (ir, nw, cw, ss, ct, sa, nI wr, nI nx, nI tc, ms, sr, rv, mr, rx, rr, nI rm, nI sh, am, tp, pc, ps, ur, nI rp, rt, ds, un, tl, ro, lm, bs, re, sd, la, dl, lo, ep, ts, upd fl j (fl j ||| 256), ta), (ir, nI wr, nI tc, nw, cw, ss, ct, sa, nI nx, sr, rv, mr, ry, rr, nI rm, nI sh, am, pc, ps, ur, nI rp, rt, ds, un, tl, ro, lm, dc, ms, ms, hr, tp, bs, rb, re, sd, la, dl, lo, ep, mk, ts, ta, upd aa j 1, ax, ap), fun P hp => ?_, fun P hp => ?_, rt_RLi ⟨⟨n1, n2, n3, n4, n5, n6⟩, hS, hZl, hZd, hZr, hL, hT, hK, rt_IF_a hF hj, hB, hC⟩⟩
        · unfold wpX_deliverNoAck
          exact xe_dup n3 hj (hA.mpr a0) (by omega) ek r0 hp
        · unfold wpY_deliverNoAck
          exact ye_dup n3 hj a0 (by omega) ek r0 (br_t rfl (br_f r0 hp))
    · refine ⟨tc, -1, (ir, nw, cw, ss, ct, sa, nI wr, nI nx, nI tc, ms, sr, rv, mr, rx, rr, nI rm, nI sh, am, tp, pc, ps, ur, nI rp, rt, ds, un, tl, ro, lm, bs, re, sd, la, dl, lo, ep, ts, fl, ta), (ir, nI wr, nI tc, nw, cw, ss, ct, sa, nI nx, sr, rv, mr, ry, rr, nI rm, nI sh, am, pc, ps, ur, nI rp, rt, ds, un, tl, ro, lm, dc, ms, ms, hr, tp, bs, rb, re, sd, la, dl, lo, ep, mk, ts, ta, aa, ax, ap), fun P hp => ?_, fun P hp => ?_, rt_RLi hI⟩
      · unfold wpX_deliverNoAck
        exact xe_old n3 hj (fun z => a0 (hA.mp z)) hp
      · unfold wpY_deliverNoAck
        exact ye_old n3 hj a0 hp
theorem la_dv {x : Int32} (hI : rt_IV nx wr tc rp sh rm rx ry hr dc bs re sd la dl lo ts fl rb aa ax ap) : ∃ (t : Nat) (r : Int32) (u : SX) (v : SY), (∀ P : Int32 → SX → Prop, P r u → wpX_deliver P (ir, nw, cw, ss, ct, sa, nI wr, nI nx, nI tc, ms, sr, rv, mr, rx, rr, nI rm, nI sh, am, tp, pc, ps, ur, nI rp, rt, ds, un, tl, ro, lm, bs, re, sd, la, dl, lo, ep, ts, fl, ta) x) ∧ (∀ P : Int32 → SY → Prop, P r v → wpY_deliver P (ir, nI wr, nI tc, nw, cw, ss, ct, sa, nI nx, sr, rv, mr, ry, rr, nI rm, nI sh, am, pc, ps, ur, nI rp, rt, ds, un, tl, ro, lm, dc, ms, ms, hr, tp, bs, rb, re, sd, la, dl, lo, ep, mk, ts, ta, aa, ax, ap) x) ∧ rt_RL t u v := by
  have hI0 := hI
  obtain ⟨⟨n1, n2, n3, n4, n5, n6⟩, hS, hZl, hZd, hZr, hL, hT, hK, hF, hB, hC⟩ := hI0
  have NO : (x < 0 ∨ nI tc ≤ x) → ∃ (t : Nat) (r : Int32) (u : SX) (v : SY), (∀ P : Int32 → SX → Prop, P r u → wpX_deliver P (ir, nw, cw, ss, ct, sa, nI wr, nI nx, nI tc, ms, sr, rv, mr, rx, rr, nI rm, nI sh, am, tp, pc, ps, ur, nI rp, rt, ds, un, tl, ro, lm, bs, re, sd, la, dl, lo, ep, ts, fl, ta) x) ∧ (∀ P : Int32 → SY → Prop, P r v → wpY_deliver P (ir, nI wr, nI tc, nw, cw, ss, ct, sa, nI nx, sr, rv, mr, ry, rr, nI rm, nI sh, am, pc, ps, ur, nI rp, rt, ds, un, tl, ro, lm, dc, ms, ms, hr, tp, bs, rb, re, sd, la, dl, lo, ep, mk, ts, ta, aa, ax, ap) x) ∧ rt_RL t u v := by
    intro h
    refine ⟨tc, -1, (ir, nw, cw, ss, ct, sa, nI wr, nI nx, nI tc, ms, sr, rv, mr, rx, rr, nI rm, nI sh, am, tp, pc, ps, ur, nI rp, rt, ds, un, tl, ro, lm, bs, re, sd, la, dl, lo, ep, ts, fl, ta), (ir, nI wr, nI tc, nw, cw, ss, ct, sa, nI nx, sr, rv, mr, ry, rr, nI rm, nI sh, am, pc, ps, ur, nI rp, rt, ds, un, tl, ro, lm, dc, ms, ms, hr, tp, bs, rb, re, sd, la, dl, lo, ep, mk, ts, ta, aa, ax, ap), fun P hp => ?_, fun P hp => ?_, rt_RLi hI⟩
    · unfold wpX_deliver
      exact xe_no h (br_t rfl hp)
    · unfold wpY_deliver
      exact ye_no h hp
  rcases pk_ix x (n := tc) (by omega) with h | h | ⟨j, hj, rfl⟩
  · exact NO (Or.inl h)
  · exact NO (Or.inr h)
  · have hA := rt_IF_arr hF hj
    obtain ⟨k, hk, ek⟩ := hT j hj
    have ej : ts (nI j).toNatClampNeg = nI k := by rw [rt_cp (by omega)]; exact ek
    by_cases a0 : aa j = 0
    · by_cases r0 : re k = 0
      · obtain ⟨t, u, v, hX, hY, R⟩ := la_ak (wr := wr) (nx := nx) (tc := tc) (rm := rm) (sh := sh) (rp := rp) (ir := ir) (nw := nw) (cw := cw) (ss := ss) (ct := ct) (sa := sa) (ms := ms) (sr := sr) (rv := rv) (mr := mr) (rx := rx) (rr := rr) (am := am) (tp := tp) (pc := pc) (ps := ps) (ur := ur) (rt := rt) (ds := ds) (un := un) (tl := tl) (ro := ro) (lm := lm) (ry := ry) (hr := hr) (dc := dc) (bs := bs) (sd := sd) (la := la) (dl := dl) (lo := lo) (ep := ep) (ts := ts) (ta := ta) (mk := mk) (ax := ax) (ap := ap) (fl := upd fl j (fl j ||| 256)) (re := upd re k 1) (aa := upd aa j 1) (rb := upd rb k (bs k)) (s := k) (p := 0) (x := 0) ⟨⟨n1, n2, n3, n4, n5, n6⟩, hS, hZl, hZd, rt_IZ_u hZr hk 1, hL, hT, hK, rt_IF_a hF hj, rt_IB_n hB, hC⟩ (by omega) Iff.rfl
        obtain ⟨wr', nx', rm', sh', rp', ir', nw', cw', ss', ct', sa', ms', sr', rv', mr', rx', rr', am', tp', pc', ps', ur', rt', ds', un', tl', ro', lm', ry', hr', dc', bs', re', sd', la', dl', lo', ep', ts', fl', ta', rb', mk', aa', ax', ap', rfl, rfl, hI'⟩ := R
        refine ⟨t, 1, _, _, fun P hp => ?_, fun P hp => ?_, rt_RLi (wr := wr') (nx := nx') (rm := rm') (sh := sh') (rp := rp') (ir := ir') (nw := nw') (cw := cw') (ss := ss') (ct := ct') (sa := sa') (ms := ms') (sr := sr') (rv := rv') (mr := mr') (rx := rx') (rr := rr') (am := am') (tp := tp') (pc := pc') (ps := ps') (ur := ur') (rt := rt') (ds := ds') (un := un') (tl := tl') (ro := ro') (lm := lm') (ry := ry') (hr := hr') (dc := dc') (bs := bs') (re := re') (sd := sd') (la := la') (dl := dl') (lo := lo') (ep := ep') (ts := ts') (fl := fl') (ta := ta') (rb := rb') (mk := mk') (aa := aa') (ax := ax') (ap := ap') hI'⟩
        · unfold wpX_deliver
          refine xe_new n3 hj (hA.mpr a0) (by omega) ek r0 (br_f (by decide) (br_f (by decide) ⟨rt_i2 (by omega), ?_⟩))
          rw [ej]
          exact hX _ hp
        · unfold wpY_deliver
          exact ye_new n3 hj a0 (by omega) ek r0 (br_f (by decide) (hY _ (br_t rfl hp)))
      · obtain ⟨t, u, v, hX, hY, R⟩ := la_ak (wr := wr) (nx := nx) (tc := tc) (rm := rm) (sh := sh) (rp := rp) (ir := ir) (nw := nw) (cw := cw) (ss := ss) (ct := ct) (sa := sa) (ms := ms) (sr := sr) (rv := rv) (mr := mr) (rx := rx) (rr := rr) (am := am) (tp := tp) (pc := pc) (ps := ps) (ur := ur) (rt := rt) (ds := ds) (un := un) (tl := tl) (ro := ro) (lm := lm) (ry := ry) (hr := hr) (dc := dc) (bs := bs) (re := re) (sd := sd) (la := la) (dl := dl) (lo := lo) (ep := ep) (ts := ts) (ta := ta) (rb := rb) (mk := mk) (ax := ax) (ap := ap) (fl := upd fl j (fl j ||| 256)) (aa := upd aa j 1) (s := k) (p := 1) (x := re k) ⟨⟨n1, n2, n3, n4, n5, n6⟩, hS, hZl, hZd, hZr, hL, hT, hK, rt_IF_a hF hj, hB, hC⟩ (by omega) ⟨fun z => absurd z (by decide), fun z => absurd z r0⟩
        obtain ⟨wr', nx', rm', sh', rp', ir', nw', cw', ss', ct', sa', ms', sr', rv', mr', rx', rr', am', tp', pc', ps', ur', rt', ds', un', tl', ro', lm', ry', hr', dc', bs', re', sd', la', dl', lo', ep', ts', fl', ta', rb', mk', aa', ax', ap', rfl, rfl, hI'⟩ := R
        refine ⟨t, 2, _, _, fun P hp => ?_, fun P hp => ?_, rt_RLi (wr := wr') (nx := nx') (rm := rm') (sh := sh') (rp := rp') (ir := ir') (nw := nw') (cw := cw') (ss := ss') (ct := ct') (sa := sa') (ms := ms') (sr := sr') (rv := rv') (mr := mr') (rx := rx') (rr := rr') (am := am') (tp := tp') (pc := pc') (ps := ps') (ur := ur') (rt := rt') (ds := ds') (un := un') (tl := tl') (ro := ro') (lm := lm') (ry := ry') (hr := hr') (dc := dc') (bs := bs') (re := re') (sd := sd') (la := la') (dl := dl') (lo := lo') (ep := ep') (ts := ts') (fl := fl') (ta := ta') (rb := rb') (mk := mk') (aa := aa') (ax := ax') (ap := ap') hI'⟩
        · unfold wpX_deliver
          refine xe_dup n3 hj (hA.mpr a0) (by omega) ek r0 (br_f (by decide) (br_t rfl ⟨rt_i2 (by omega), ?_⟩))
          rw [ej]
          exact hX _ hp
        · unfold wpY_deliver
          exact ye_dup n3 hj a0 (by omega) ek r0 (br_f (by decide) (hY _ (br_f r0 hp)))
    · refine ⟨tc, -1, (ir, nw, cw, ss, ct, sa, nI wr, nI nx, nI tc, ms, sr, rv, mr, rx, rr, nI rm, nI sh, am, tp, pc, ps, ur, nI rp, rt, ds, un, tl, ro, lm, bs, re, sd, la, dl, lo, ep, ts, fl, ta), (ir, nI wr, nI tc, nw, cw, ss, ct, sa, nI nx, sr, rv, mr, ry, rr, nI rm, nI sh, am, pc, ps, ur, nI rp, rt, ds, un, tl, ro, lm, dc, ms, ms, hr, tp, bs, rb, re, sd, la, dl, lo, ep, mk, ts, ta, aa, ax, ap), fun P hp => ?_, fun P hp => ?_, rt_RLi hI⟩
      · unfold wpX_deliver
        exact xe_old n3 hj (fun z => a0 (hA.mp z)) (br_t rfl hp)
      · unfold wpY_deliver
        exact ye_old n3 hj a0 hp
end
