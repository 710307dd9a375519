/-! one transmission, and sending, in lockstep -/
section
variable {ir nw cw ss ct sa ms sr rv mr rx rr am tp pc ps ur rt ds un tl ro lm : Int32} {wr nx tc rm sh rp : Nat} {bs re sd la dl lo ep ts fl ta : Nat → Int32} {ry hr dc : Int32} {rb mk aa ax ap : Nat → Int32} {j : Nat}
theorem xb_trA {P : SX → Prop} (ht : tc < 256) (hj : j < 64) (hw : j < wr) (h64 : wr ≤ 64) (h0 : 0 < sd j) (h1 : sa = 0 → P (ir, nw, cw, ss, ct, sa, nI wr, nI nx, nI (tc + 1), ms, sr, rv, mr, rx, rr, nI rm, nI sh, am, tp, pc, ps, ur, nI rp, rt + 1, ds, un, tl, ro, lm, bs, re, upd sd j (sd j + 1), upd la j (nI tc), dl, upd lo j 0, ep, upd ts tc (nI j), upd fl tc 512, upd ta tc nw)) (h2 : ¬ sa = 0 → P (ir, nw, cw, ss, ct, sa, nI wr, nI nx, nI (tc + 1), ms, sr, rv, mr, rx, rr, nI rm, nI sh, am, tp, pc, ps, ur + 1, nI rp, rt + 1, ds, un, tl, ro, lm, bs, re, upd sd j (sd j + 1), upd la j (nI tc), dl, upd lo j 0, upd ep j (ep j + 1), upd ts tc (nI j), upd fl tc 512, upd ta tc nw)) : wpX_transmit P (ir, nw, cw, ss, ct, sa, nI wr, nI nx, nI tc, ms, sr, rv, mr, rx, rr, nI rm, nI sh, am, tp, pc, ps, ur, nI rp, rt, ds, un, tl, ro, lm, bs, re, sd, la, dl, lo, ep, ts, fl, ta) (nI j) := by
  refine br_f (nI_ge (b := 256) ht (by decide)) (br_f (nI_pos (by omega)) (br_t (nI_lt hw (by omega)) ⟨rt_in hj, br_f (by rw [rt_cp (by omega)]; exact Int32.not_le.mpr h0) ?_⟩))
  refine nm_r (nI_1 tc) ⟨rt_i2 ht, nm_r (rt_ua ht) ⟨rt_i2 ht, nm_r (rt_ua ht) (br_f (by decide) ?_)⟩⟩
  refine ⟨rt_i2 ht, nm_r (rt_ua ht) ⟨rt_in hj, rt_in hj, nm_r (e' := upd sd j (sd j + 1)) (by rw [rt_ua (by omega), rt_cp (by omega)]) ⟨rt_in hj, nm_r (rt_ua (by omega)) (br_f (by decide) ?_)⟩⟩⟩
  refine ⟨rt_in hj, nm_r (e' := upd lo j 0) (by rw [rt_n0, rt_ua (by omega)]) (nm_e (br_c h1 (fun z => ⟨rt_in hj, rt_in hj, nm_r (e' := upd ep j (ep j + 1)) (by rw [rt_ua (by omega), rt_cp (by omega)]) (nm_e (h2 z))⟩)))⟩
theorem xb_trN {P : SX → Prop} (ht : tc < 256) (hj : nx < 64) (hw : nx < wr) (h64 : wr ≤ 64) (h0 : sd nx = 0) (h1 : P (ir, nw, cw, ss, ct, sa, nI wr, nI (nx + 1), nI (tc + 1), ms, sr, rv, mr, rx, rr, nI rm, nI sh, nw, tp, pc, ps, ur, nI rp, rt, ds, un, tl, ro, lm, bs, re, upd sd nx (sd nx + 1), upd la nx (nI tc), dl, lo, ep, upd ts tc (nI nx), upd fl tc 0, upd ta tc nw)) : wpX_transmit P (ir, nw, cw, ss, ct, sa, nI wr, nI nx, nI tc, ms, sr, rv, mr, rx, rr, nI rm, nI sh, am, tp, pc, ps, ur, nI rp, rt, ds, un, tl, ro, lm, bs, re, sd, la, dl, lo, ep, ts, fl, ta) (nI nx) := by
  refine br_f (nI_ge (b := 256) ht (by decide)) (br_f (nI_pos (by omega)) (br_t (nI_lt hw (by omega)) ⟨rt_in hj, br_t (by rw [rt_cp (by omega), h0]; decide) ?_⟩))
  refine nm_r (nI_1 tc) ⟨rt_i2 ht, nm_r (rt_ua ht) ⟨rt_i2 ht, nm_r (rt_ua ht) (br_t rfl ?_)⟩⟩
  exact ⟨rt_i2 ht, nm_r (rt_ua ht) ⟨rt_in hj, rt_in hj, nm_r (e' := upd sd nx (sd nx + 1)) (by rw [rt_ua (by omega), rt_cp (by omega)]) ⟨rt_in hj, nm_r (rt_ua (by omega)) (br_t rfl (nm_r (nI_1 nx) h1))⟩⟩⟩
theorem yb_trA {P : Int32 → SY → Prop} (ht : tc < 256) (hj : j < 64) (h0 : 0 < sd j) (h1 : sa = 0 → P (nI tc) (ir, nI wr, nI (tc + 1), nw, cw, ss, ct, sa, nI nx, sr, rv, mr, ry, rr, nI rm, nI sh, am, pc, ps, ur, nI rp, rt + 1, ds, un, tl, ro, lm, dc, ms, ms, hr, tp, bs, rb, re, upd sd j (sd j + 1), upd la j (nI tc), dl, upd lo j 0, ep, mk, upd ts tc (nI j), upd ta tc nw, upd aa tc 0, upd ax tc 1, upd ap tc 0)) (h2 : ¬ sa = 0 → P (nI tc) (ir, nI wr, nI (tc + 1), nw, cw, ss, ct, sa, nI nx, sr, rv, mr, ry, rr, nI rm, nI sh, am, pc, ps, ur + 1, nI rp, rt + 1, ds, un, tl, ro, lm, dc, ms, ms, hr, tp, bs, rb, re, upd sd j (sd j + 1), upd la j (nI tc), dl, upd lo j 0, upd ep j (ep j + 1), mk, upd ts tc (nI j), upd ta tc nw, upd aa tc 0, upd ax tc 1, upd ap tc 0)) : wpY_transmit P (ir, nI wr, nI tc, nw, cw, ss, ct, sa, nI nx, sr, rv, mr, ry, rr, nI rm, nI sh, am, pc, ps, ur, nI rp, rt, ds, un, tl, ro, lm, dc, ms, ms, hr, tp, bs, rb, re, sd, la, dl, lo, ep, mk, ts, ta, aa, ax, ap) (nI j) := by
  refine br_f (nI_ge (b := 256) ht (by decide)) (br_f (nI_pos (by omega)) (br_t (nI_lt (b := 64) hj (by decide)) ?_))
  refine nm_r (nI_1 tc) ⟨rt_i2 ht, nm_r (rt_ua ht) ⟨rt_i2 ht, nm_r (rt_ua ht) ⟨rt_i2 ht, nm_r (e' := upd aa tc 0) (by rw [rt_n0, rt_ua ht]) ⟨rt_in hj, br_f (by rw [rt_cp (by omega)]; exact Int32.not_le.mpr h0) ?_⟩⟩⟩⟩
  refine ⟨rt_i2 ht, nm_r (e' := upd ax tc 1) (by rw [rt_n1, rt_ua ht]) ⟨rt_i2 ht, nm_r (e' := upd ap tc 0) (by rw [rt_n0, rt_ua ht]) ⟨rt_in hj, rt_in hj, nm_r (e' := upd sd j (sd j + 1)) (by rw [rt_ua (by omega), rt_cp (by omega)]) ⟨rt_in hj, nm_r (rt_ua (by omega)) ⟨rt_i2 ht, br_f (by rw [rt_cp ht, pk_us]; decide) ?_⟩⟩⟩⟩⟩
  refine ⟨rt_in hj, nm_r (e' := upd lo j 0) (by rw [rt_n0, rt_ua (by omega)]) (nm_e (br_c h1 (fun z => ⟨rt_in hj, rt_in hj, nm_r (e' := upd ep j (ep j + 1)) (by rw [rt_ua (by omega), rt_cp (by omega)]) (nm_e (h2 z))⟩)))⟩
theorem yb_trN {P : Int32 → SY → Prop} (ht : tc < 256) (hj : nx < 64) (h0 : sd nx = 0) (h1 : P (nI tc) (ir, nI wr, nI (tc + 1), nw, cw, ss, ct, sa, nI (nx + 1), sr, rv, mr, ry, rr, nI rm, nI sh, nw, pc, ps, ur, nI rp, rt, ds, un, tl, ro, lm, dc, ms, ms, hr, tp, bs, rb, re, upd sd nx (sd nx + 1), upd la nx (nI tc), dl, lo, ep, mk, upd ts tc (nI nx), upd ta tc nw, upd aa tc 0, upd ax tc 0, upd ap tc 0)) : wpY_transmit P (ir, nI wr, nI tc, nw, cw, ss, ct, sa, nI nx, sr, rv, mr, ry, rr, nI rm, nI sh, am, pc, ps, ur, nI rp, rt, ds, un, tl, ro, lm, dc, ms, ms, hr, tp, bs, rb, re, sd, la, dl, lo, ep, mk, ts, ta, aa, ax, ap) (nI nx) := by
  refine br_f (nI_ge (b := 256) ht (by decide)) (br_f (nI_pos (by omega)) (br_t (nI_lt (b := 64) hj (by decide)) ?_))
  refine nm_r (nI_1 tc) ⟨rt_i2 ht, nm_r (rt_ua ht) ⟨rt_i2 ht, nm_r (rt_ua ht) ⟨rt_i2 ht, nm_r (e' := upd aa tc 0) (by rw [rt_n0, rt_ua ht]) ⟨rt_in hj, br_t (by rw [rt_cp (by omega), h0]; decide) ?_⟩⟩⟩⟩
  exact ⟨rt_i2 ht, nm_r (e' := upd ax tc 0) (by rw [rt_n0, rt_ua ht]) ⟨rt_i2 ht, nm_r (e' := upd ap tc 0) (by rw [rt_n0, rt_ua ht]) ⟨rt_in hj, rt_in hj, nm_r (e' := upd sd nx (sd nx + 1)) (by rw [rt_ua (by omega), rt_cp (by omega)]) ⟨rt_in hj, nm_r (rt_ua (by omega)) ⟨rt_i2 ht, br_t (by rw [rt_cp ht, pk_us]) (nm_r (nI_1 nx) h1)⟩⟩⟩⟩⟩
theorem la_tr (hI : rt_IV nx wr tc rp sh rm rx ry hr dc bs re sd la dl lo ts fl rb aa ax ap) (ht : tc < 256) (hj : j ≤ nx) (hw : j < wr) : ∃ (u : SX) (v : SY), (∀ P : SX → Prop, P u → wpX_transmit P (ir, nw, cw, ss, ct, sa, nI wr, nI nx, nI tc, ms, sr, rv, mr, rx, rr, nI rm, nI sh, am, tp, pc, ps, ur, nI rp, rt, ds, un, tl, ro, lm, bs, re, sd, la, dl, lo, ep, ts, fl, ta) (nI j)) ∧ (∀ P : Int32 → SY → Prop, P (nI tc) v → wpY_transmit P (ir, nI wr, nI tc, nw, cw, ss, ct, sa, nI nx, sr, rv, mr, ry, rr, nI rm, nI sh, am, pc, ps, ur, nI rp, rt, ds, un, tl, ro, lm, dc, ms, ms, hr, tp, bs, rb, re, sd, la, dl, lo, ep, mk, ts, ta, aa, ax, ap) (nI j)) ∧ rt_RL (tc + 1) u v := by
  obtain ⟨⟨n1, n2, n3, n4, n5, n6⟩, hS, hZl, hZd, hZr, hL, hT, hK, hF, hB, hC⟩ := hI
  rcases Nat.lt_or_ge j nx with h | h
  · have h0 := rt_IS_pos hS n3 h
    have hN : rt_IN nx wr (tc + 1) rp sh rm := ⟨n1, n2, by omega, n4, n5, n6⟩
    have I2 : rt_IV nx wr (tc + 1) rp sh rm rx ry hr dc bs re (upd sd j (sd j + 1)) (upd la j (nI tc)) dl (upd lo j 0) (upd ts tc (nI j)) (upd fl tc 512) rb (upd aa tc 0) (upd ax tc 1) (upd ap tc 0) :=
      ⟨hN, rt_IS_a hS h, rt_IZ_0 hZl j, hZd, hZr, rt_IL_u hL j ht, rt_IT_u hT h, hK, rt_IF_n hF ⟨false, true, false, rfl, rfl, rfl, by decide⟩, hB, hC⟩
    by_cases z : sa = 0
    · exact ⟨_, _, fun P hp => xb_trA ht (by omega) hw n2 h0 (fun _ => hp) (fun y => absurd z y), fun P hp => yb_trA ht (by omega) h0 (fun _ => hp) (fun y => absurd z y), rt_RLi I2⟩
    · exact ⟨_, _, fun P hp => xb_trA ht (by omega) hw n2 h0 (fun y => absurd y z) (fun _ => hp), fun P hp => yb_trA ht (by omega) h0 (fun y => absurd y z) (fun _ => hp), rt_RLi I2⟩
  · obtain rfl : j = nx := by omega
    have h0 := hS.2 j (Nat.le_refl j)
    have I2 : rt_IV (j + 1) wr (tc + 1) rp sh rm rx ry hr dc bs re (upd sd j (sd j + 1)) (upd la j (nI tc)) dl lo (upd ts tc (nI j)) (upd fl tc 0) rb (upd aa tc 0) (upd ax tc 0) (upd ap tc 0) :=
      ⟨⟨by omega, n2, by omega, n4, n5, n6⟩, rt_IS_n hS, rt_IZ_m hZl (by omega), rt_IZ_m hZd (by omega), rt_IZ_m hZr (by omega), rt_IL_u hL j ht, rt_IT_u (rt_IT_m hT (by omega)) (by omega), hK, rt_IF_n hF ⟨false, false, false, rfl, rfl, rfl, by decide⟩, hB, hC⟩
    exact ⟨_, _, fun P hp => xb_trN ht (by omega) hw n2 h0 hp, fun P hp => yb_trN ht (by omega) h0 hp, rt_RLi I2⟩
theorem xb_trZ {P : SX → Prop} {x : Int32} (h : tc = 256 ∨ x < 0) (hp : P (ir, nw, cw, ss, ct, sa, nI wr, nI nx, nI tc, ms, sr, rv, mr, rx, rr, nI rm, nI sh, am, tp, pc, ps, ur, nI rp, rt, ds, un, tl, ro, lm, bs, re, sd, la, dl, lo, ep, ts, fl, ta)) : wpX_transmit P (ir, nw, cw, ss, ct, sa, nI wr, nI nx, nI tc, ms, sr, rv, mr, rx, rr, nI rm, nI sh, am, tp, pc, ps, ur, nI rp, rt, ds, un, tl, ro, lm, bs, re, sd, la, dl, lo, ep, ts, fl, ta) x := by
  by_cases z : (256 : Int32) ≤ nI tc
  · exact br_t z hp
  · refine br_f z (br_t (h.elim (fun e => ?_) id) hp)
    rw [e] at z; exact absurd (by decide) z
theorem yb_trZ {P : Int32 → SY → Prop} {x : Int32} (h : tc = 256 ∨ x < 0) (hp : P (-1) (ir, nI wr, nI tc, nw, cw, ss, ct, sa, nI nx, sr, rv, mr, ry, rr, nI rm, nI sh, am, pc, ps, ur, nI rp, rt, ds, un, tl, ro, lm, dc, ms, ms, hr, tp, bs, rb, re, sd, la, dl, lo, ep, mk, ts, ta, aa, ax, ap)) : wpY_transmit P (ir, nI wr, nI tc, nw, cw, ss, ct, sa, nI nx, sr, rv, mr, ry, rr, nI rm, nI sh, am, pc, ps, ur, nI rp, rt, ds, un, tl, ro, lm, dc, ms, ms, hr, tp, bs, rb, re, sd, la, dl, lo, ep, mk, ts, ta, aa, ax, ap) x := by
  by_cases z : (256 : Int32) ≤ nI tc
  · exact br_t z hp
  · refine br_f z (br_t (h.elim (fun e => ?_) id) hp)
    rw [e] at z; exact absurd (by decide) z
theorem yb_sc_l {post : SY → Prop} {J2 : Int32 → Int32 → Int32 → Int32 → Int32 → Int32 → Int32 → Int32 → Int32 → Int32 → Int32 → Int32 → Int32 → Int32 → Int32 → Int32 → Int32 → Int32 → Int32 → Int32 → Int32 → Int32 → Int32 → Int32 → Int32 → Int32 → Int32 → Int32 → Int32 → Int32 → Int32 → Int32 → Int32 → (Nat → Int32) → (Nat → Int32) → (Nat → Int32) → (Nat → Int32) → (Nat → Int32) → (Nat → Int32) → (Nat → Int32) → (Nat → Int32) → (Nat → Int32) → (Nat → Int32) → (Nat → Int32) → (Nat → Int32) → (Nat → Int32) → (Nat → Int32) → Prop} {x1 : Int32} (hj : ∀ j, j < 64 → ¬ lo j = 0 → (∀ i, i < j → lo i = 0) → wY_send_61 post J2 x1 (nI j) ir (nI wr) (nI tc) nw cw ss ct sa (nI nx) sr rv mr ry rr (nI rm) (nI sh) am pc ps ur (nI rp) rt ds un tl ro lm dc ms ms hr tp bs rb re sd la dl lo ep mk ts ta aa ax ap) (hn : (∀ i, i < 64 → lo i = 0) → wY_send_61 post J2 x1 (-1) ir (nI wr) (nI tc) nw cw ss ct sa (nI nx) sr rv mr ry rr (nI rm) (nI sh) am pc ps ur (nI rp) rt ds un tl ro lm dc ms ms hr tp bs rb re sd la dl lo ep mk ts ta aa ax ap) : ∀ d s, s + d = 64 → (∀ i, i < s → lo i = 0) → wY_send_35 post J2 x1 (-1) ir (nI wr) (nI tc) nw cw ss ct sa (nI nx) sr rv mr ry rr (nI rm) (nI sh) am pc ps ur (nI rp) rt ds un tl ro lm dc ms ms hr tp bs rb re sd la dl lo ep mk ts ta aa ax ap (d + 1) (nI s) := by
  intro d
  induction d with
  | zero =>
    intro s h hz
    obtain rfl : s = 64 := by omega
    exact br_t rt_64e (hn hz)
  | succ d ih =>
    intro s h hz
    exact br_f (rt_64 s (by omega)) ⟨rt_in (by omega), rt_bz (by omega) (fun y => nm_r (nI_1 s) (ih (s + 1) (by omega) (lt_s hz y))) (fun y => hj s (by omega) y hz)⟩
theorem yb_sc {post : SY → Prop} {J2 : Int32 → Int32 → Int32 → Int32 → Int32 → Int32 → Int32 → Int32 → Int32 → Int32 → Int32 → Int32 → Int32 → Int32 → Int32 → Int32 → Int32 → Int32 → Int32 → Int32 → Int32 → Int32 → Int32 → Int32 → Int32 → Int32 → Int32 → Int32 → Int32 → Int32 → Int32 → Int32 → Int32 → (Nat → Int32) → (Nat → Int32) → (Nat → Int32) → (Nat → Int32) → (Nat → Int32) → (Nat → Int32) → (Nat → Int32) → (Nat → Int32) → (Nat → Int32) → (Nat → Int32) → (Nat → Int32) → (Nat → Int32) → (Nat → Int32) → (Nat → Int32) → Prop} {x1 : Int32} (hj : ∀ j, j < 64 → ¬ lo j = 0 → (∀ i, i < j → lo i = 0) → wY_send_61 post J2 x1 (nI j) ir (nI wr) (nI tc) nw cw ss ct sa (nI nx) sr rv mr ry rr (nI rm) (nI sh) am pc ps ur (nI rp) rt ds un tl ro lm dc ms ms hr tp bs rb re sd la dl lo ep mk ts ta aa ax ap) (hn : (∀ i, i < 64 → lo i = 0) → wY_send_61 post J2 x1 (-1) ir (nI wr) (nI tc) nw cw ss ct sa (nI nx) sr rv mr ry rr (nI rm) (nI sh) am pc ps ur (nI rp) rt ds un tl ro lm dc ms ms hr tp bs rb re sd la dl lo ep mk ts ta aa ax ap) : ∃ n, wY_send_35 post J2 x1 (-1) ir (nI wr) (nI tc) nw cw ss ct sa (nI nx) sr rv mr ry rr (nI rm) (nI sh) am pc ps ur (nI rp) rt ds un tl ro lm dc ms ms hr tp bs rb re sd la dl lo ep mk ts ta aa ax ap n 0 :=
  ⟨65, yb_sc_l hj hn 64 0 (by omega) lt_0⟩
end
theorem la_sd_l : ∀ d : Nat, ∀ (wr nx tc rm sh rp : Nat) (ir nw cw ss ct sa ms sr rv mr rx rr am tp pc ps ur rt ds un tl ro lm ry hr dc : Int32) (bs re sd la dl lo ep ts fl ta rb mk aa ax ap : Nat → Int32), rt_IV nx wr tc rp sh rm rx ry hr dc bs re sd la dl lo ts fl rb aa ax ap → d + tc = 256 → ∀ i : Nat, i + d ≤ 256 → ∃ (t' : Nat) (u : SX) (v : SY), (∀ (P : SX → Prop) (n : Nat), P u → d < n → wX_sendAllowed_9 P n (nI d) ir nw cw ss ct sa (nI wr) (nI nx) (nI tc) ms sr rv mr rx rr (nI rm) (nI sh) am tp pc ps ur (nI rp) rt ds un tl ro lm bs re sd la dl lo ep ts fl ta) ∧ (∀ (P : SY → Prop) (n : Nat), P v → 256 - i < n → wY_send_2 P n (nI i) ir (nI wr) (nI tc) nw cw ss ct sa (nI nx) sr rv mr ry rr (nI rm) (nI sh) am pc ps ur (nI rp) rt ds un tl ro lm dc ms ms hr tp bs rb re sd la dl lo ep mk ts ta aa ax ap) ∧ rt_RL t' u v := by
  intro d
  induction d with
  | zero =>
    intro wr nx tc rm sh rp ir nw cw ss ct sa ms sr rv mr rx rr am tp pc ps ur rt ds un tl ro lm ry hr dc bs re sd la dl lo ep ts fl ta rb mk aa ax ap hI ht i hi
    refine ⟨tc, (ir, nw, cw, ss, ct, sa, nI wr, nI nx, nI tc, ms, sr, rv, mr, rx, rr, nI rm, nI sh, am, tp, pc, ps, ur, nI rp, rt, ds, un, tl, ro, lm, bs, re, sd, la, dl, lo, ep, ts, fl, ta), (ir, nI wr, nI tc, nw, cw, ss, ct, sa, nI nx, sr, rv, mr, ry, rr, nI rm, nI sh, am, pc, ps, ur, nI rp, rt, ds, un, tl, ro, lm, dc, ms, ms, hr, tp, bs, rb, re, sd, la, dl, lo, ep, mk, ts, ta, aa, ax, ap), fun P n hp hn => ?_, fun P n hp hn => ?_, rt_RLi hI⟩
    · obtain ⟨m, rfl⟩ : ∃ m, n = m + 1 := ⟨n - 1, by omega⟩
      exact br_t (by decide) hp
    · obtain ⟨m, rfl⟩ : ∃ m, n = m + 1 := ⟨n - 1, by omega⟩
      exact pk_le 256 i (fun _ => hp) (fun _ => pk_le 256 tc (fun _ => hp) (fun z => by omega))
  | succ d ih =>
    intro wr nx tc rm sh rp ir nw cw ss ct sa ms sr rv mr rx rr am tp pc ps ur rt ds un tl ro lm ry hr dc bs re sd la dl lo ep ts fl ta rb mk aa ax ap hI ht i hi
    have hI0 := hI
    obtain ⟨⟨n1, n2, n3, n4, n5, n6⟩, hS, hZl, hZd, hZr, hL, hT, hK, hF, hB, hC⟩ := hI0
    have hx : nx ≤ 64 := by omega
    have i1 : ¬ (256 : Int32) ≤ nI i := nI_ge (b := 256) (by omega) (by decide)
    have t1 : ¬ (256 : Int32) ≤ nI tc := nI_ge (b := 256) (by omega) (by decide)
    have d1 : ¬ nI (d + 1) ≤ 0 := nI_nle (by omega) (by omega)
    by_cases hc : nI (rt_cn (rt_fl sd dl lo) nx) < cw
    · -- one more goes out, at j; or nothing is left to send
      have GO : ∀ j, j ≤ nx → j < wr → ((∀ (P : SX → Prop) (n : Nat), wpX_inflight (fun r => ((r < cw → wpX_transmit (fun u => match u with | (ir_, nw_, cw_, ss_, ct_, sa_, wr_, nx_, tc_, ms_, sr_, rv_, mr_, rx_, rr_, rm_, sh_, am_, tp_, pc_, ps_, ur_, rp_, rt_, ds_, un_, tl_, ro_, lm_, bs_, re_, sd_, la_, dl_, lo_, ep_, ts_, fl_, ta_) => (∀ x1_125 : Int32, x1_125 = nI (d + 1) + (-1) → wX_sendAllowed_9 P n x1_125 ir_ nw_ cw_ ss_ ct_ sa_ wr_ nx_ tc_ ms_ sr_ rv_ mr_ rx_ rr_ rm_ sh_ am_ tp_ pc_ ps_ ur_ rp_ rt_ ds_ un_ tl_ ro_ lm_ bs_ re_ sd_ la_ dl_ lo_ ep_ ts_ fl_ ta_)) (ir, nw, cw, ss, ct, sa, nI wr, nI nx, nI tc, ms, sr, rv, mr, rx, rr, nI rm, nI sh, am, tp, pc, ps, ur, nI rp, rt, ds, un, tl, ro, lm, bs, re, sd, la, dl, lo, ep, ts, fl, ta) (nI j)) ∧ (¬ r < cw → P (ir, nw, cw, ss, ct, sa, nI wr, nI nx, nI tc, ms, sr, rv, mr, rx, rr, nI rm, nI sh, am, tp, pc, ps, ur, nI rp, rt, ds, un, tl, ro, lm, bs, re, sd, la, dl, lo, ep, ts, fl, ta)))) (ir, nw, cw, ss, ct, sa, nI wr, nI nx, nI tc, ms, sr, rv, mr, rx, rr, nI rm, nI sh, am, tp, pc, ps, ur, nI rp, rt, ds, un, tl, ro, lm, bs, re, sd, la, dl, lo, ep, ts, fl, ta) → wX_sendAllowed_9 P (n + 1) (nI (d + 1)) ir nw cw ss ct sa (nI wr) (nI nx) (nI tc) ms sr rv mr rx rr (nI rm) (nI sh) am tp pc ps ur (nI rp) rt ds un tl ro lm bs re sd la dl lo ep ts fl ta)) → ((∀ (P : SY → Prop) (n : Nat), wY_send_81 P (wY_send_2 P n) (nI i) (nI j) ir (nI wr) (nI tc) nw cw ss ct sa (nI nx) sr rv mr ry rr (nI rm) (nI sh) am pc ps ur (nI rp) rt ds un tl ro lm dc ms ms hr tp bs rb re sd la dl lo ep mk ts ta aa ax ap → wY_send_2 P (n + 1) (nI i) ir (nI wr) (nI tc) nw cw ss ct sa (nI nx) sr rv mr ry rr (nI rm) (nI sh) am pc ps ur (nI rp) rt ds un tl ro lm dc ms ms hr tp bs rb re sd la dl lo ep mk ts ta aa ax ap)) → ∃ (t' : Nat) (u : SX) (v : SY), (∀ (P : SX → Prop) (n : Nat), P u → d + 1 < n → wX_sendAllowed_9 P n (nI (d + 1)) ir nw cw ss ct sa (nI wr) (nI nx) (nI tc) ms sr rv mr rx rr (nI rm) (nI sh) am tp pc ps ur (nI rp) rt ds un tl ro lm bs re sd la dl lo ep ts fl ta) ∧ (∀ (P : SY → Prop) (n : Nat), P v → 256 - i < n → wY_send_2 P n (nI i) ir (nI wr) (nI tc) nw cw ss ct sa (nI nx) sr rv mr ry rr (nI rm) (nI sh) am pc ps ur (nI rp) rt ds un tl ro lm dc ms ms hr tp bs rb re sd la dl lo ep mk ts ta aa ax ap) ∧ rt_RL t' u v := by
        intro j hj hw gX gY
        obtain ⟨u1, v1, hX, hY, R⟩ := la_tr (ir := ir) (nw := nw) (cw := cw) (ss := ss) (ct := ct) (sa := sa) (ms := ms) (sr := sr) (rv := rv) (mr := mr) (rr := rr) (am := am) (tp := tp) (pc := pc) (ps := ps) (ur := ur) (rt := rt) (ds := ds) (un := un) (tl := tl) (ro := ro) (lm := lm) (ep := ep) (ta := ta) (mk := mk) hI (by omega) hj hw
        obtain ⟨wr', nx', rm', sh', rp', ir', nw', cw', ss', ct', sa', ms', sr', rv', mr', rx', rr', am', tp', pc', ps', ur', rt', ds', un', tl', ro', lm', ry', hr', dc', bs', re', sd', la', dl', lo', ep', ts', fl', ta', rb', mk', aa', ax', ap', rfl, rfl, hI'⟩ := R
        obtain ⟨t', u', v', kX, kY, R'⟩ := ih wr' nx' (tc + 1) rm' sh' rp' ir' nw' cw' ss' ct' sa' ms' sr' rv' mr' rx' rr' am' tp' pc' ps' ur' rt' ds' un' tl' ro' lm' ry' hr' dc' bs' re' sd' la' dl' lo' ep' ts' fl' ta' rb' mk' aa' ax' ap' hI' (by omega) (i + 1) (by omega)
        refine ⟨t', u', v', fun P n hp hn => ?_, fun P n hp hn => ?_, R'⟩
        · obtain ⟨m, rfl⟩ : ∃ m, n = m + 1 := ⟨n - 1, by omega⟩
          exact gX P m (xa_infl hx (br_t hc (hX _ (nm_r (pk_m1 d) (kX P m hp (by omega))))))
        · obtain ⟨m, rfl⟩ : ∃ m, n = m + 1 := ⟨n - 1, by omega⟩
          exact gY P m (br_t (nI_pos' (by omega)) (hY _ (nm_r (nI_1 i) (kY P m hp (by omega)))))
      rcases rt_first (rt_nz lo) nx with hz | ⟨j, hj, hj1, hj2⟩
      · have hz' : ∀ s, s < nx → lo s = 0 := fun s hs => rt_nz_0 (hz s hs)
        have hza : ∀ s, lo s = 0 := fun s => (Nat.lt_or_ge s nx).elim (hz' s) (hZl s)
        rcases Nat.lt_or_ge nx wr with hw | hw
        · refine GO nx (Nat.le_refl _) hw (fun P n h => ?_) (fun P n h => ?_)
          · exact br_f d1 (xa_next hx n2 (fun j hj y _ => absurd (hz' j hj) y) (fun _ y => by omega) (fun _ _ => br_f (nI_pos (by omega)) h))
          · exact br_f i1 (br_f t1 (ya_infl hx hS (br_t hc (yb_sc (fun j _ y _ => absurd (hza j) y) (fun _ => br_f (by decide) (br_f (nI_ge hw (by omega)) h))))))
        · refine ⟨tc, (ir, nw, cw, ss, ct, sa, nI wr, nI nx, nI tc, ms, sr, rv, mr, rx, rr, nI rm, nI sh, am, tp, pc, ps, ur, nI rp, rt, ds, un, tl, ro, lm, bs, re, sd, la, dl, lo, ep, ts, fl, ta), (ir, nI wr, nI tc, nw, cw, ss, ct, sa, nI nx, sr, rv, mr, ry, rr, nI rm, nI sh, am, pc, ps, ur, nI rp, rt, ds, un, tl, ro, lm, dc, ms, ms, hr, tp, bs, rb, re, sd, la, dl, lo, ep, mk, ts, ta, aa, ax, ap), fun P n hp hn => ?_, fun P n hp hn => ?_, rt_RLi hI⟩
          · obtain ⟨m, rfl⟩ : ∃ m, n = m + 1 := ⟨n - 1, by omega⟩
            exact br_f d1 (xa_next hx n2 (fun j hj y _ => absurd (hz' j hj) y) (fun _ y => br_t (by decide) hp) (fun _ y => by omega))
          · obtain ⟨m, rfl⟩ : ∃ m, n = m + 1 := ⟨n - 1, by omega⟩
            exact br_f i1 (br_f t1 (ya_infl hx hS (br_t hc (yb_sc (fun j _ y _ => absurd (hza j) y) (fun _ => br_f (by decide) (br_t (nI_le hw (by omega)) (br_f (by decide) hp)))))))
      · have hj0 : ¬ lo j = 0 := rt_nz_1 hj1
        have hq : ∀ i, ¬ lo i = 0 → (∀ k, k < i → lo k = 0) → i = j := fun i a b => by
          rcases Nat.lt_trichotomy i j with g | g | g
          · exact absurd (rt_nz_0 (hj2 i g)) a
          · exact g
          · exact absurd (b j g) hj0
        refine GO j (by omega) (by omega) (fun P n h => ?_) (fun P n h => ?_)
        · exact br_f d1 (xa_next hx n2 (fun k _ y g => by rw [hq k y g]; exact br_f (nI_pos (by omega)) h) (fun z _ => absurd (z j hj) hj0) (fun z _ => absurd (z j hj) hj0))
        · exact br_f i1 (br_f t1 (ya_infl hx hS (br_t hc (yb_sc (fun k _ y g => by rw [hq k y g]; exact br_t (nI_pos' (by omega)) h) (fun z => absurd (z j (by omega)) hj0)))))
    · refine ⟨tc, (ir, nw, cw, ss, ct, sa, nI wr, nI nx, nI tc, ms, sr, rv, mr, rx, rr, nI rm, nI sh, am, tp, pc, ps, ur, nI rp, rt, ds, un, tl, ro, lm, bs, re, sd, la, dl, lo, ep, ts, fl, ta), (ir, nI wr, nI tc, nw, cw, ss, ct, sa, nI nx, sr, rv, mr, ry, rr, nI rm, nI sh, am, pc, ps, ur, nI rp, rt, ds, un, tl, ro, lm, dc, ms, ms, hr, tp, bs, rb, re, sd, la, dl, lo, ep, mk, ts, ta, aa, ax, ap), fun P n hp hn => ?_, fun P n hp hn => ?_, rt_RLi hI⟩
      · obtain ⟨m, rfl⟩ : ∃ m, n = m + 1 := ⟨n - 1, by omega⟩
        exact br_f d1 (xa_next hx n2 (fun j _ _ _ => br_f (nI_pos (by omega)) (xa_infl hx (br_f hc hp))) (fun _ _ => br_t (by decide) hp) (fun _ _ => br_f (nI_pos (by omega)) (xa_infl hx (br_f hc hp))))
      · obtain ⟨m, rfl⟩ : ∃ m, n = m + 1 := ⟨n - 1, by omega⟩
        exact br_f i1 (br_f t1 (ya_infl hx hS (br_f hc hp)))
section
variable {ir nw cw ss ct sa ms sr rv mr rx rr am tp pc ps ur rt ds un tl ro lm : Int32} {wr nx tc rm sh rp : Nat} {bs re sd la dl lo ep ts fl ta : Nat → Int32} {ry hr dc : Int32} {rb mk aa ax ap : Nat → Int32}
theorem la_sd (hI : rt_IV nx wr tc rp sh rm rx ry hr dc bs re sd la dl lo ts fl rb aa ax ap) : ∃ (t' : Nat) (u : SX) (v : SY), (∀ P : SX → Prop, P u → wpX_sendAllowed P (ir, nw, cw, ss, ct, sa, nI wr, nI nx, nI tc, ms, sr, rv, mr, rx, rr, nI rm, nI sh, am, tp, pc, ps, ur, nI rp, rt, ds, un, tl, ro, lm, bs, re, sd, la, dl, lo, ep, ts, fl, ta)) ∧ (∀ P : SY → Prop, P v → wpY_send P (ir, nI wr, nI tc, nw, cw, ss, ct, sa, nI nx, sr, rv, mr, ry, rr, nI rm, nI sh, am, pc, ps, ur, nI rp, rt, ds, un, tl, ro, lm, dc, ms, ms, hr, tp, bs, rb, re, sd, la, dl, lo, ep, mk, ts, ta, aa, ax, ap)) ∧ rt_RL t' u v := by
  have n3 : tc ≤ 256 := hI.1.2.2.1
  obtain ⟨t', u, v, kX, kY, R⟩ := la_sd_l (256 - tc) wr nx tc rm sh rp ir nw cw ss ct sa ms sr rv mr rx rr am tp pc ps ur rt ds un tl ro lm ry hr dc bs re sd la dl lo ep ts fl ta rb mk aa ax ap hI (by omega) 0 (by omega)
  exact ⟨t', u, v, fun P hp => nm_r (pk_sub (a := 256) n3) ⟨256 - tc + 1, kX P _ hp (by omega)⟩, fun P hp => ⟨257, kY P _ hp (by omega)⟩, R⟩
end
