/-! the reference: what it only reads -/
section
variable {ir nw cw ss ct sa ms sr rv mr rx rr am tp pc ps ur rt ds un tl ro lm : Int32} {wr nx tc rm sh rp : Nat} {bs re sd la dl lo ep ts fl ta : Nat → Int32} {ry hr dc : Int32} {rb mk aa ax ap : Nat → Int32} {post : Int32 → Prop} {s : Nat}
theorem ya_out (hs : s < 64) (h : post (rt_b (rt_ou sd dl s))) : wpY_outstanding post (ir, nI wr, nI tc, nw, cw, ss, ct, sa, nI nx, sr, rv, mr, ry, rr, nI rm, nI sh, am, pc, ps, ur, nI rp, rt, ds, un, tl, ro, lm, dc, ms, ms, hr, tp, bs, rb, re, sd, la, dl, lo, ep, mk, ts, ta, aa, ax, ap) (nI s) := by
  unfold wpY_outstanding
  rw [nI_clamp (by omega : s < 2 ^ 31)]
  refine br_f (nI_pos (by omega)) (br_f (rt_64 s hs) ⟨rt_in hs, br_c (fun z => ?_) (fun z => ⟨rt_in hs, br_c (fun y => ?_) (fun y => ?_)⟩)⟩)
  · rw [rt_ou_a (Int32.not_lt.mpr z)] at h; exact h
  · rw [rt_ou_t (Int32.not_le.mp z) y] at h; exact h
  · rw [rt_ou_b y] at h; exact h
theorem ya_can (hl : rt_IL la) (hk : rt_IK rx ry hr) (hs : s < 64) (h : post (rt_b (rt_ca sd dl lo la rx s))) : wpY_candidate post (ir, nI wr, nI tc, nw, cw, ss, ct, sa, nI nx, sr, rv, mr, ry, rr, nI rm, nI sh, am, pc, ps, ur, nI rp, rt, ds, un, tl, ro, lm, dc, ms, ms, hr, tp, bs, rb, re, sd, la, dl, lo, ep, mk, ts, ta, aa, ax, ap) (nI s) := by
  unfold wpY_candidate
  rw [nI_clamp (by omega : s < 2 ^ 31)]
  have hK := rt_IK_ca hk hl s
  refine ya_out hs (rt_br _ (fun e => ?_) (fun e => ⟨rt_in hs, br_c (fun y => br_c (fun x => ?_) (fun x => ⟨rt_in hs, br_c (fun w => ?_) (fun w => ?_)⟩)) (fun y => ?_)⟩))
  · rw [rt_ca_a e] at h; exact h
  · rw [rt_ca_c (fun z => (hK.mp z).1 x)] at h; exact h
  · rw [rt_ca_c (fun z => Int32.not_lt.mpr w (hK.mp z).2)] at h; exact h
  · rw [rt_ca_t e y (hK.mpr ⟨x, Int32.not_le.mp w⟩)] at h; exact h
  · rw [rt_ca_b y] at h; exact h
theorem ya_infl_l (hp : post (nI (rt_cn (rt_fl sd dl lo) 64))) : ∀ d s n, s + d = 64 → d < n → wY_inflight_4 post ir (nI wr) (nI tc) nw cw ss ct sa (nI nx) sr rv mr ry rr (nI rm) (nI sh) am pc ps ur (nI rp) rt ds un tl ro lm dc ms ms hr tp bs rb re sd la dl lo ep mk ts ta aa ax ap n (nI (rt_cn (rt_fl sd dl lo) s)) (nI s) := by
  intro d
  induction d with
  | zero =>
    intro s n h hn
    obtain ⟨m, rfl⟩ : ∃ m, n = m + 1 := ⟨n - 1, by omega⟩
    obtain rfl : s = 64 := by omega
    exact br_t rt_64e hp
  | succ d ih =>
    intro s n h hn
    obtain ⟨m, rfl⟩ : ∃ m, n = m + 1 := ⟨n - 1, by omega⟩
    have k := ih (s + 1) m (by omega) (by omega)
    refine br_f (rt_64 s (by omega)) (ya_out (by omega) (rt_br _ (fun e => ?_) (fun e => ⟨rt_in (by omega), rt_bz (by omega) (fun y => ?_) (fun y => ?_)⟩)))
    · rw [rt_cn_f (rt_fl_a e)] at k; exact nm_r (nI_1 s) k
    · rw [rt_cn_t (rt_fl_t e y)] at k; exact nm_r (nI_1 _) (nm_r (nI_1 s) k)
    · rw [rt_cn_f (rt_fl_b y)] at k; exact nm_r (nI_1 s) k
theorem ya_infl {t : Nat} (hx : nx ≤ 64) (hS : rt_IS nx t sd) (hp : post (nI (rt_cn (rt_fl sd dl lo) nx))) : wpY_inflight post (ir, nI wr, nI tc, nw, cw, ss, ct, sa, nI nx, sr, rv, mr, ry, rr, nI rm, nI sh, am, pc, ps, ur, nI rp, rt, ds, un, tl, ro, lm, dc, ms, ms, hr, tp, bs, rb, re, sd, la, dl, lo, ep, mk, ts, ta, aa, ax, ap) := by
  obtain ⟨d, hd⟩ : ∃ d, 64 = nx + d := ⟨64 - nx, by omega⟩
  rw [← rt_cn_hi (rt_fl sd dl lo) (rt_IS_fl hS dl lo) d, ← hd] at hp
  exact ⟨65, ya_infl_l hp 64 0 65 (by omega) (by omega)⟩
theorem ya_rw (hp : post (rt_rw ms sr mr rm)) : wpY_reoWnd post (ir, nI wr, nI tc, nw, cw, ss, ct, sa, nI nx, sr, rv, mr, ry, rr, nI rm, nI sh, am, pc, ps, ur, nI rp, rt, ds, un, tl, ro, lm, dc, ms, ms, hr, tp, bs, rb, re, sd, la, dl, lo, ep, mk, ts, ta, aa, ax, ap) :=
  br_c (fun z => by rw [rt_rw_0 z] at hp; exact hp) (fun z => ⟨by decide, nm_e (br_c (fun y => by rw [rt_rw_1 z y] at hp; exact hp) (fun y => by rw [rt_rw_2 z y] at hp; exact hp))⟩)
theorem ya_pto (hp : post (rt_mx (2 * sr) 2)) : wpY_pto post (ir, nI wr, nI tc, nw, cw, ss, ct, sa, nI nx, sr, rv, mr, ry, rr, nI rm, nI sh, am, pc, ps, ur, nI rp, rt, ds, un, tl, ro, lm, dc, ms, ms, hr, tp, bs, rb, re, sd, la, dl, lo, ep, mk, ts, ta, aa, ax, ap) :=
  nm_e (br_c (fun z => by rw [rt_mx_g z] at hp; exact hp) (fun z => by rw [rt_mx_l (rt_nle z)] at hp; exact hp))
theorem ya_rto_l {b : Nat} (h6 : sh ≤ 6) (hp : post (nI (b * 2 ^ sh))) : ∀ d i n, i + d = sh → d < n → wY_rto_53 post ir (nI wr) (nI tc) nw cw ss ct sa (nI nx) sr rv mr ry rr (nI rm) (nI sh) am pc ps ur (nI rp) rt ds un tl ro lm dc ms ms hr tp bs rb re sd la dl lo ep mk ts ta aa ax ap n (nI (b * 2 ^ i)) (nI i) := by
  intro d
  induction d with
  | zero =>
    intro i n h hn
    obtain ⟨m, rfl⟩ : ∃ m, n = m + 1 := ⟨n - 1, by omega⟩
    obtain rfl : i = sh := by omega
    exact br_t (nI_le (Nat.le_refl _) (by omega)) hp
  | succ d ih =>
    intro i n h hn
    obtain ⟨m, rfl⟩ : ∃ m, n = m + 1 := ⟨n - 1, by omega⟩
    have k := ih (i + 1) m (by omega) (by omega)
    refine br_f (nI_ge (by omega) (by omega)) (br_f (nI_ge (b := 6) (by omega) (by decide)) ?_)
    refine nm_r (e' := nI (b * 2 ^ (i + 1))) ?_ (nm_r (nI_1 i) k)
    show nI (b * 2 ^ i) * nI 2 = _
    rw [pk_mul, Nat.pow_succ, Nat.mul_assoc]
theorem ya_rto_b {x : Int32} (h6 : sh ≤ 6) (hp : post (rt_cl x 4 4000 <<< (nI sh &&& 31))) : wY_rto_33 post x ir (nI wr) (nI tc) nw cw ss ct sa (nI nx) sr rv mr ry rr (nI rm) (nI sh) am pc ps ur (nI rp) rt ds un tl ro lm dc ms ms hr tp bs rb re sd la dl lo ep mk ts ta aa ax ap := by
  obtain ⟨b, hb, e⟩ := rt_cl_nat x
  have h2 : 2 ^ sh ≤ 2 ^ 6 := Nat.pow_le_pow_right (by decide) h6
  have h3 : b * 2 ^ sh ≤ 4000 * 2 ^ 6 := Nat.mul_le_mul hb h2
  have hq := hp
  rw [e, pk_shlN (nI sh &&& 31) sh (s_l sh (by omega)) (by omega)] at hq
  have W : ∃ n53 : Nat, wY_rto_53 post ir (nI wr) (nI tc) nw cw ss ct sa (nI nx) sr rv mr ry rr (nI rm) (nI sh) am pc ps ur (nI rp) rt ds un tl ro lm dc ms ms hr tp bs rb re sd la dl lo ep mk ts ta aa ax ap n53 (nI b) 0 := by
    refine ⟨sh + 1, ?_⟩
    have k := ya_rto_l (ir := ir) (nw := nw) (cw := cw) (ss := ss) (ct := ct) (sa := sa) (ms := ms) (sr := sr) (rv := rv) (mr := mr) (rr := rr) (am := am) (tp := tp) (pc := pc) (ps := ps) (ur := ur) (rt := rt) (ds := ds) (un := un) (tl := tl) (ro := ro) (lm := lm) (wr := wr) (nx := nx) (tc := tc) (rm := rm) (rp := rp) (bs := bs) (re := re) (sd := sd) (la := la) (dl := dl) (lo := lo) (ep := ep) (ts := ts) (ta := ta) (ry := ry) (hr := hr) (dc := dc) (rb := rb) (mk := mk) (aa := aa) (ax := ax) (ap := ap) h6 hq sh 0 (sh + 1) (by omega) (by omega)
    rw [Nat.pow_zero, Nat.mul_one] at k
    exact k
  refine br_c (fun z => br_c (fun y => ?_) (fun y => ?_)) (fun z => br_t (by decide) ?_)
  · rw [rt_cl_c (Int32.not_lt.mpr z) (Int32.not_lt.mpr y)] at e; rw [e]; exact W
  · rw [rt_cl_b (Int32.not_lt.mpr z) (Int32.not_le.mp y)] at e; rw [e]; exact W
  · rw [rt_cl_a (Int32.not_le.mp z)] at e; rw [e]; exact W
theorem ya_rto (h6 : sh ≤ 6) (hp : post (rt_ro ir ms sr rv sh)) : wpY_rto post (ir, nI wr, nI tc, nw, cw, ss, ct, sa, nI nx, sr, rv, mr, ry, rr, nI rm, nI sh, am, pc, ps, ur, nI rp, rt, ds, un, tl, ro, lm, dc, ms, ms, hr, tp, bs, rb, re, sd, la, dl, lo, ep, mk, ts, ta, aa, ax, ap) := by
  unfold rt_ro at hp
  refine br_c (fun z => ?_) (fun z => nm_e (br_c (fun y => nm_e ?_) (fun y => nm_e ?_)))
  · rw [rt_bb_0 z] at hp; exact ya_rto_b h6 hp
  · rw [rt_bb_1 z, rt_mx_l y] at hp; exact ya_rto_b h6 hp
  · rw [rt_bb_1 z, rt_mx_g (rt_nle y)] at hp; exact ya_rto_b h6 hp
theorem ya_tm_l {w R W : Int32} (hl : rt_IL la) (hk : rt_IK rx ry hr) (hp : ∀ n, wY_timer_25 post w R W ir (nI wr) (nI tc) nw cw ss ct sa (nI nx) sr rv mr ry rr (nI rm) (nI sh) am pc ps ur (nI rp) rt ds un tl ro lm dc ms ms hr tp bs rb re sd la dl lo ep mk ts ta aa ax ap (n + 1) (rt_b (rt_fo (rt_ou sd dl) (fun s => ta (la s).toNatClampNeg + R) 64).1) (rt_fo (rt_ou sd dl) (fun s => ta (la s).toNatClampNeg + R) 64).2 (rt_b (rt_fo (rt_ca sd dl lo la rx) (fun s => (ta (la s).toNatClampNeg + rr) + W) 64).1) (rt_fo (rt_ca sd dl lo la rx) (fun s => (ta (la s).toNatClampNeg + rr) + W) 64).2 (nI 64)) : ∀ d s n, s + d = 64 → d < n → wY_timer_25 post w R W ir (nI wr) (nI tc) nw cw ss ct sa (nI nx) sr rv mr ry rr (nI rm) (nI sh) am pc ps ur (nI rp) rt ds un tl ro lm dc ms ms hr tp bs rb re sd la dl lo ep mk ts ta aa ax ap n (rt_b (rt_fo (rt_ou sd dl) (fun s => ta (la s).toNatClampNeg + R) s).1) (rt_fo (rt_ou sd dl) (fun s => ta (la s).toNatClampNeg + R) s).2 (rt_b (rt_fo (rt_ca sd dl lo la rx) (fun s => (ta (la s).toNatClampNeg + rr) + W) s).1) (rt_fo (rt_ca sd dl lo la rx) (fun s => (ta (la s).toNatClampNeg + rr) + W) s).2 (nI s) := by
  intro d
  induction d with
  | zero =>
    intro s n h hn
    obtain ⟨m, rfl⟩ : ∃ m, n = m + 1 := ⟨n - 1, by omega⟩
    obtain rfl : s = 64 := by omega
    exact hp m
  | succ d ih =>
    intro s n h hn
    obtain ⟨m, rfl⟩ : ∃ m, n = m + 1 := ⟨n - 1, by omega⟩
    have k := ih (s + 1) m (by omega) (by omega)
    -- the second half of the body: the candidate's deadline
    have T : ∀ a : Bool, ∀ b : Int32, rt_ou sd dl s = true → rt_fo (rt_ou sd dl) (fun s => ta (la s).toNatClampNeg + R) (s + 1) = (a, b) → wY_timer_81 post (wY_timer_25 post w R W ir (nI wr) (nI tc) nw cw ss ct sa (nI nx) sr rv mr ry rr (nI rm) (nI sh) am pc ps ur (nI rp) rt ds un tl ro lm dc ms ms hr tp bs rb re sd la dl lo ep mk ts ta aa ax ap m) w R W (rt_b a) b (rt_b (rt_fo (rt_ca sd dl lo la rx) (fun s => (ta (la s).toNatClampNeg + rr) + W) s).1) (rt_fo (rt_ca sd dl lo la rx) (fun s => (ta (la s).toNatClampNeg + rr) + W) s).2 (nI s) (ta (la s).toNatClampNeg) ir (nI wr) (nI tc) nw cw ss ct sa (nI nx) sr rv mr ry rr (nI rm) (nI sh) am pc ps ur (nI rp) rt ds un tl ro lm dc ms ms hr tp bs rb re sd la dl lo ep mk ts ta aa ax ap := by
      intro a b ho e
      rw [e] at k
      refine ya_can hl hk (by omega) (rt_br _ (fun f => ?_) (fun f => nm_e (rt_br _ (fun y => ?_) (fun y => br_c (fun z => ?_) (fun z => ?_)))))
      · rw [rt_fo_f f] at k; exact nm_r (nI_1 s) k
      · rw [rt_fo_a f y] at k; exact nm_r (nI_1 s) k
      · rw [rt_fo_b f y z] at k; rw [y]; exact nm_r (nI_1 s) k
      · rw [rt_fo_c f z] at k; exact nm_r (nI_1 s) k
    refine br_f (rt_64 s (by omega)) (ya_out (by omega) (rt_br _ (fun e => ?_) (fun e => ⟨rt_in (by omega), by rw [rt_cp (by omega)]; exact rt_IL_in hl s, nm_r (e' := ta (la s).toNatClampNeg) (by rw [rt_cp (by omega)]) (rt_br _ (fun y => nm_e ?_) (fun y => br_c (fun z => ?_) (fun z => nm_e ?_)))⟩)))
    · rw [rt_fo_f e, rt_fo_f (rt_ca_a e)] at k; exact nm_r (nI_1 s) k
    · exact T true _ e (rt_fo_a e y)
    · rw [y]; exact T true _ e (rt_fo_b e y z)
    · exact T true _ e (rt_fo_c e z)
theorem ya_tm {w : Int32} (h6 : sh ≤ 6) (hl : rt_IL la) (hk : rt_IK rx ry hr) (hp : ∀ n, wY_timer_25 post w (rt_ro ir ms sr rv sh) (rt_rw ms sr mr rm) ir (nI wr) (nI tc) nw cw ss ct sa (nI nx) sr rv mr ry rr (nI rm) (nI sh) am pc ps ur (nI rp) rt ds un tl ro lm dc ms ms hr tp bs rb re sd la dl lo ep mk ts ta aa ax ap (n + 1) (rt_b (rt_fo (rt_ou sd dl) (fun s => ta (la s).toNatClampNeg + rt_ro ir ms sr rv sh) 64).1) (rt_fo (rt_ou sd dl) (fun s => ta (la s).toNatClampNeg + rt_ro ir ms sr rv sh) 64).2 (rt_b (rt_fo (rt_ca sd dl lo la rx) (fun s => (ta (la s).toNatClampNeg + rr) + rt_rw ms sr mr rm) 64).1) (rt_fo (rt_ca sd dl lo la rx) (fun s => (ta (la s).toNatClampNeg + rr) + rt_rw ms sr mr rm) 64).2 (nI 64)) : wpY_timer post (ir, nI wr, nI tc, nw, cw, ss, ct, sa, nI nx, sr, rv, mr, ry, rr, nI rm, nI sh, am, pc, ps, ur, nI rp, rt, ds, un, tl, ro, lm, dc, ms, ms, hr, tp, bs, rb, re, sd, la, dl, lo, ep, mk, ts, ta, aa, ax, ap) w := by
  unfold wpY_timer
  exact ya_rto h6 (ya_rw ⟨65, ya_tm_l hl hk hp 64 0 65 (by omega) (by omega)⟩)
theorem ya_cm_l (hw : wr ≤ 64) (h1 : (∀ i, i < wr → ¬ dl i = 0) → post 1) (h0 : ∀ j, j < wr → dl j = 0 → post 0) : ∀ d s n, s + d = wr → d < n → (∀ i, i < s → ¬ dl i = 0) → wY_complete_2 post ir (nI wr) (nI tc) nw cw ss ct sa (nI nx) sr rv mr ry rr (nI rm) (nI sh) am pc ps ur (nI rp) rt ds un tl ro lm dc ms ms hr tp bs rb re sd la dl lo ep mk ts ta aa ax ap n (nI s) := by
  intro d
  induction d with
  | zero =>
    intro s n h hn hz
    obtain ⟨m, rfl⟩ : ∃ m, n = m + 1 := ⟨n - 1, by omega⟩
    obtain rfl : s = wr := by omega
    exact br_t (nI_le (Nat.le_refl _) (by omega)) (h1 hz)
  | succ d ih =>
    intro s n h hn hz
    obtain ⟨m, rfl⟩ : ∃ m, n = m + 1 := ⟨n - 1, by omega⟩
    refine br_f (nI_ge (by omega) (by omega)) (br_f (rt_64 s (by omega)) ⟨rt_in (by omega), rt_bz (by omega) (fun y => h0 s (by omega) y) (fun y => ?_)⟩)
    exact nm_r (nI_1 s) (ih (s + 1) m (by omega) (by omega) (lt_s hz y))
theorem ya_cm (hw : wr ≤ 64) (h1 : (∀ i, i < wr → ¬ dl i = 0) → post 1) (h0 : ∀ j, j < wr → dl j = 0 → post 0) : wpY_complete post (ir, nI wr, nI tc, nw, cw, ss, ct, sa, nI nx, sr, rv, mr, ry, rr, nI rm, nI sh, am, pc, ps, ur, nI rp, rt, ds, un, tl, ro, lm, dc, ms, ms, hr, tp, bs, rb, re, sd, la, dl, lo, ep, mk, ts, ta, aa, ax, ap) :=
  ⟨wr + 1, ya_cm_l hw h1 h0 wr 0 (wr + 1) (by omega) (by omega) lt_0⟩
/-! the length of what has come, in lockstep -/
theorem la_ca : ∃ r : Int32, (∀ post : Int32 → Prop, post r → wpX_cumAck post (ir, nw, cw, ss, ct, sa, nI wr, nI nx, nI tc, ms, sr, rv, mr, rx, rr, nI rm, nI sh, am, tp, pc, ps, ur, nI rp, rt, ds, un, tl, ro, lm, bs, re, sd, la, dl, lo, ep, ts, fl, ta)) ∧ (∀ post : Int32 → Prop, post r → wpY_cumAck post (ir, nI wr, nI tc, nw, cw, ss, ct, sa, nI nx, sr, rv, mr, ry, rr, nI rm, nI sh, am, pc, ps, ur, nI rp, rt, ds, un, tl, ro, lm, dc, ms, ms, hr, tp, bs, rb, re, sd, la, dl, lo, ep, mk, ts, ta, aa, ax, ap)) := by
  have K : ∀ d s, s + d = 64 → ∃ r : Int32, (∀ post : Int32 → Prop, post r → wX_cumAck_2 post ir nw cw ss ct sa (nI wr) (nI nx) (nI tc) ms sr rv mr rx rr (nI rm) (nI sh) am tp pc ps ur (nI rp) rt ds un tl ro lm bs re sd la dl lo ep ts fl ta (d + 1) (nI s)) ∧ (∀ post : Int32 → Prop, post r → wY_cumAck_4 post ir (nI wr) (nI tc) nw cw ss ct sa (nI nx) sr rv mr ry rr (nI rm) (nI sh) am pc ps ur (nI rp) rt ds un tl ro lm dc ms ms hr tp bs rb re sd la dl lo ep mk ts ta aa ax ap (d + 1) (nI s) (nI s)) := by
    intro d
    induction d with
    | zero =>
      intro s h
      obtain rfl : s = 64 := by omega
      exact ⟨nI 64, fun _ hp => br_t rt_64e hp, fun _ hp => br_t rt_64e hp⟩
    | succ d ih =>
      intro s h
      by_cases z : re s = 0
      · exact ⟨nI s, fun _ hp => br_f (rt_64 s (by omega)) ⟨rt_in (by omega), rt_bz (by omega) (fun _ => hp) (fun y => absurd z y)⟩, fun _ hp => br_f (rt_64 s (by omega)) ⟨rt_in (by omega), rt_bz (by omega) (fun _ => hp) (fun y => absurd z y)⟩⟩
      · obtain ⟨r, hX, hY⟩ := ih (s + 1) (by omega)
        exact ⟨r, fun post hp => br_f (rt_64 s (by omega)) ⟨rt_in (by omega), rt_bz (by omega) (fun y => absurd y z) (fun _ => nm_r (nI_1 s) (hX post hp))⟩, fun post hp => br_f (rt_64 s (by omega)) ⟨rt_in (by omega), rt_bz (by omega) (fun y => absurd y z) (fun _ => nm_r (nI_1 s) (nm_r (nI_1 s) (hY post hp)))⟩⟩
  obtain ⟨r, hX, hY⟩ := K 64 0 (by omega)
  exact ⟨r, fun post hp => ⟨65, hX post hp⟩, fun post hp => ⟨65, hY post hp⟩⟩
end
