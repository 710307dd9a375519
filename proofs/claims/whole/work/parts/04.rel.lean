/-! the relation; the timers in lockstep -/
def rt_IV (nx wr tc rp sh rm : Nat) (rx ry hr dc : Int32) (bs re sd la dl lo ts fl rb aa ax ap : Nat → Int32) : Prop :=
  rt_IN nx wr tc rp sh rm ∧ rt_IS nx tc sd ∧ rt_IZ nx lo ∧ rt_IZ nx dl ∧ rt_IZ nx re ∧ rt_IL la ∧ rt_IT nx tc ts ∧ rt_IK rx ry hr ∧ rt_IF tc fl aa ax ap ∧ rt_IB re rb bs ∧ rt_IC dl dc
def rt_RL (tc : Nat) (u : SX) (v : SY) : Prop := ∃ (wr nx rm sh rp : Nat) (ir nw cw ss ct sa ms sr rv mr rx rr am tp pc ps ur rt ds un tl ro lm ry hr dc : Int32) (bs re sd la dl lo ep ts fl ta rb mk aa ax ap : Nat → Int32), u = (ir, nw, cw, ss, ct, sa, nI wr, nI nx, nI tc, ms, sr, rv, mr, rx, rr, nI rm, nI sh, am, tp, pc, ps, ur, nI rp, rt, ds, un, tl, ro, lm, bs, re, sd, la, dl, lo, ep, ts, fl, ta) ∧ v = (ir, nI wr, nI tc, nw, cw, ss, ct, sa, nI nx, sr, rv, mr, ry, rr, nI rm, nI sh, am, pc, ps, ur, nI rp, rt, ds, un, tl, ro, lm, dc, ms, ms, hr, tp, bs, rb, re, sd, la, dl, lo, ep, mk, ts, ta, aa, ax, ap) ∧ rt_IV nx wr tc rp sh rm rx ry hr dc bs re sd la dl lo ts fl rb aa ax ap
def i_Rel (k : Nat) (u : SX) (v : SY) : Prop := ∃ tc : Nat, rt_RL tc u v
theorem i_up {k : Nat} {u : SX} {v : SY} (h : i_Rel k u v) : i_Rel (k + 2) u v := h
section
variable {ir nw cw ss ct sa ms sr rv mr rx rr am tp pc ps ur rt ds un tl ro lm : Int32} {wr nx tc rm sh rp : Nat} {bs re sd la dl lo ep ts fl ta : Nat → Int32} {ry hr dc : Int32} {rb mk aa ax ap : Nat → Int32} {post : Int32 → Prop}
theorem rt_RLi (h : rt_IV nx wr tc rp sh rm rx ry hr dc bs re sd la dl lo ts fl rb aa ax ap) : rt_RL tc (ir, nw, cw, ss, ct, sa, nI wr, nI nx, nI tc, ms, sr, rv, mr, rx, rr, nI rm, nI sh, am, tp, pc, ps, ur, nI rp, rt, ds, un, tl, ro, lm, bs, re, sd, la, dl, lo, ep, ts, fl, ta) (ir, nI wr, nI tc, nw, cw, ss, ct, sa, nI nx, sr, rv, mr, ry, rr, nI rm, nI sh, am, pc, ps, ur, nI rp, rt, ds, un, tl, ro, lm, dc, ms, ms, hr, tp, bs, rb, re, sd, la, dl, lo, ep, mk, ts, ta, aa, ax, ap) :=
  ⟨wr, nx, rm, sh, rp, ir, nw, cw, ss, ct, sa, ms, sr, rv, mr, rx, rr, am, tp, pc, ps, ur, rt, ds, un, tl, ro, lm, ry, hr, dc, bs, re, sd, la, dl, lo, ep, ts, fl, ta, rb, mk, aa, ax, ap, rfl, rfl, h⟩
theorem la_tm (hI : rt_IV nx wr tc rp sh rm rx ry hr dc bs re sd la dl lo ts fl rb aa ax ap) : ∃ K A : Int32, (K = 0 ∨ K = 1 ∨ K = 2 ∨ K = 3) ∧ (∀ post : Int32 → Prop, post K → wpX_timerKind post (ir, nw, cw, ss, ct, sa, nI wr, nI nx, nI tc, ms, sr, rv, mr, rx, rr, nI rm, nI sh, am, tp, pc, ps, ur, nI rp, rt, ds, un, tl, ro, lm, bs, re, sd, la, dl, lo, ep, ts, fl, ta)) ∧ (∀ post : Int32 → Prop, post A → wpX_timerAt post (ir, nw, cw, ss, ct, sa, nI wr, nI nx, nI tc, ms, sr, rv, mr, rx, rr, nI rm, nI sh, am, tp, pc, ps, ur, nI rp, rt, ds, un, tl, ro, lm, bs, re, sd, la, dl, lo, ep, ts, fl, ta) K) ∧ (∀ post : Int32 → Prop, post K → wpY_timer post (ir, nI wr, nI tc, nw, cw, ss, ct, sa, nI nx, sr, rv, mr, ry, rr, nI rm, nI sh, am, pc, ps, ur, nI rp, rt, ds, un, tl, ro, lm, dc, ms, ms, hr, tp, bs, rb, re, sd, la, dl, lo, ep, mk, ts, ta, aa, ax, ap) 0) ∧ (∀ post : Int32 → Prop, post A → wpY_timer post (ir, nI wr, nI tc, nw, cw, ss, ct, sa, nI nx, sr, rv, mr, ry, rr, nI rm, nI sh, am, pc, ps, ur, nI rp, rt, ds, un, tl, ro, lm, dc, ms, ms, hr, tp, bs, rb, re, sd, la, dl, lo, ep, mk, ts, ta, aa, ax, ap) 1) := by
  obtain ⟨hN, hS, hZl, hZd, hZr, hL, hT, hK, hF, hB, hC⟩ := hI
  obtain ⟨n1, n2, n3, n4, n5, n6⟩ := hN
  have hx : nx ≤ 64 := by omega
  obtain ⟨dd, hdd⟩ : ∃ d, 64 = nx + d := ⟨64 - nx, by omega⟩
  have eO : rt_fo (rt_ou sd dl) (fun s => ta (la s).toNatClampNeg + rt_ro ir ms sr rv sh) 64 = rt_fo (rt_ou sd dl) (fun s => ta (la s).toNatClampNeg + rt_ro ir ms sr rv sh) nx := by
    rw [hdd]; exact rt_fo_hi (rt_IS_ou hS dl) dd
  have eC : rt_fo (rt_ca sd dl lo la rx) (fun s => (ta (la s).toNatClampNeg + rr) + rt_rw ms sr mr rm) 64 = rt_fo (rt_ca sd dl lo la rx) (fun s => (ta (la s).toNatClampNeg + rr) + rt_rw ms sr mr rm) nx := by
    rw [hdd]; exact rt_fo_hi (rt_IS_ca hS dl lo la rx) dd
  have YT : ∀ (post : Int32 → Prop) (w : Int32), (∀ n, wY_timer_25 post w (rt_ro ir ms sr rv sh) (rt_rw ms sr mr rm) ir (nI wr) (nI tc) nw cw ss ct sa (nI nx) sr rv mr ry rr (nI rm) (nI sh) am pc ps ur (nI rp) rt ds un tl ro lm dc ms ms hr tp bs rb re sd la dl lo ep mk ts ta aa ax ap (n + 1) (rt_b (rt_fo (rt_ou sd dl) (fun s => ta (la s).toNatClampNeg + rt_ro ir ms sr rv sh) nx).1) (rt_fo (rt_ou sd dl) (fun s => ta (la s).toNatClampNeg + rt_ro ir ms sr rv sh) nx).2 (rt_b (rt_fo (rt_ca sd dl lo la rx) (fun s => (ta (la s).toNatClampNeg + rr) + rt_rw ms sr mr rm) nx).1) (rt_fo (rt_ca sd dl lo la rx) (fun s => (ta (la s).toNatClampNeg + rr) + rt_rw ms sr mr rm) nx).2 (nI 64)) → wpY_timer post (ir, nI wr, nI tc, nw, cw, ss, ct, sa, nI nx, sr, rv, mr, ry, rr, nI rm, nI sh, am, pc, ps, ur, nI rp, rt, ds, un, tl, ro, lm, dc, ms, ms, hr, tp, bs, rb, re, sd, la, dl, lo, ep, mk, ts, ta, aa, ax, ap) w := by
    intro post w h
    rw [← eO, ← eC] at h
    exact ya_tm n5 hL hK h
  rcases rt_first (rt_ou sd dl) nx with hz | ⟨j, hj, hj1, _⟩
  · refine ⟨0, -1, Or.inl rfl, fun post hp => ?_, fun post hp => br_t (by decide) hp, fun post hp => YT post 0 (fun n => ?_), fun post hp => YT post 1 (fun n => ?_)⟩
    · unfold wpX_timerKind
      exact xa_lo hx (fun i hi e => by rw [hz i hi] at e; exact absurd e (by decide)) (fun _ => br_f (by decide) hp)
    · rw [rt_fo_n nx hz]; exact br_t rt_64e (br_t rfl (br_t rfl hp))
    · rw [rt_fo_n nx hz]; exact br_t rt_64e (br_t rfl (br_f (by decide) hp))
  · have o1 : ¬ rt_b (rt_fo (rt_ou sd dl) (fun s => ta (la s).toNatClampNeg + rt_ro ir ms sr rv sh) nx).1 = 0 := by rw [rt_fo_1 hj hj1]; decide
    have oz : ∀ {A : Prop}, (∀ i, i < nx → rt_ou sd dl i = false) → A := fun {A} z => by
      rw [z j hj] at hj1; exact absurd hj1 (by decide)
    rcases rt_first (rt_ca sd dl lo la rx) nx with cz | ⟨i, hi, hi1, _⟩
    · have c0 : rt_b (rt_fo (rt_ca sd dl lo la rx) (fun s => (ta (la s).toNatClampNeg + rr) + rt_rw ms sr mr rm) nx).1 = 0 := by rw [rt_fo_n nx cz]; rfl
      have XK : ∀ post : Int32 → Prop, ((ms = 0 → post 3) ∧ (¬ ms = 0 → ((sa = 0 → ((tp = 0 → wpX_pto (fun r_86 => wpX_rtoAt (fun r_126 => ((r_126 < (am + r_86) → post 3) ∧ (¬ r_126 < (am + r_86) → post 2))) (ir, nw, cw, ss, ct, sa, nI wr, nI nx, nI tc, ms, sr, rv, mr, rx, rr, nI rm, nI sh, am, tp, pc, ps, ur, nI rp, rt, ds, un, tl, ro, lm, bs, re, sd, la, dl, lo, ep, ts, fl, ta)) (ir, nw, cw, ss, ct, sa, nI wr, nI nx, nI tc, ms, sr, rv, mr, rx, rr, nI rm, nI sh, am, tp, pc, ps, ur, nI rp, rt, ds, un, tl, ro, lm, bs, re, sd, la, dl, lo, ep, ts, fl, ta)) ∧ (¬ tp = 0 → post 3))) ∧ (¬ sa = 0 → post 3)))) → wpX_timerKind post (ir, nw, cw, ss, ct, sa, nI wr, nI nx, nI tc, ms, sr, rv, mr, rx, rr, nI rm, nI sh, am, tp, pc, ps, ur, nI rp, rt, ds, un, tl, ro, lm, bs, re, sd, la, dl, lo, ep, ts, fl, ta) := by
        intro post h
        unfold wpX_timerKind
        exact xa_lo hx (fun i hi e => br_t (nI_pos' (by omega)) (xa_lc hx (fun k hk e => by rw [cz k hk] at e; exact absurd e (by decide)) (fun _ => br_t (by decide) h))) oz
      have A3 : ∀ post : Int32 → Prop, post (rt_fo (rt_ou sd dl) (fun s => ta (la s).toNatClampNeg + rt_ro ir ms sr rv sh) nx).2 → wpX_timerAt post (ir, nw, cw, ss, ct, sa, nI wr, nI nx, nI tc, ms, sr, rv, mr, rx, rr, nI rm, nI sh, am, tp, pc, ps, ur, nI rp, rt, ds, un, tl, ro, lm, bs, re, sd, la, dl, lo, ep, ts, fl, ta) 3 := fun post hp => br_f (by decide) (br_f (by decide) (br_f (by decide) (br_f (by decide) (br_t rfl (xa_ra hx hL hp)))))
      by_cases m0 : ms = 0
      · exact ⟨3, _, Or.inr (Or.inr (Or.inr rfl)), fun post hp => XK post (br_t m0 hp), A3, fun post hp => YT post 0 (fun n => br_t rt_64e (br_f o1 (br_t c0 (br_t m0 (br_t rfl hp))))), fun post hp => YT post 1 (fun n => br_t rt_64e (br_f o1 (br_t c0 (br_t m0 (br_f (by decide) hp)))))⟩
      by_cases s0 : sa = 0
      · by_cases t0 : tp = 0
        · by_cases l0 : (rt_fo (rt_ou sd dl) (fun s => ta (la s).toNatClampNeg + rt_ro ir ms sr rv sh) nx).2 < am + rt_mx (2 * sr) 2
          · exact ⟨3, _, Or.inr (Or.inr (Or.inr rfl)), fun post hp => XK post (br_f m0 (br_t s0 (br_t t0 (xa_pto (xa_ra hx hL (br_t l0 hp)))))), A3, fun post hp => YT post 0 (fun n => br_t rt_64e (br_f o1 (br_t c0 (br_f m0 (br_t s0 (br_t t0 (ya_pto (br_t l0 (br_t rfl hp))))))))), fun post hp => YT post 1 (fun n => br_t rt_64e (br_f o1 (br_t c0 (br_f m0 (br_t s0 (br_t t0 (ya_pto (br_t l0 (br_f (by decide) hp)))))))))⟩
          · exact ⟨2, am + rt_mx (2 * sr) 2, Or.inr (Or.inr (Or.inl rfl)), fun post hp => XK post (br_f m0 (br_t s0 (br_t t0 (xa_pto (xa_ra hx hL (br_f l0 hp)))))), fun post hp => br_f (by decide) (br_f (by decide) (br_f (by decide) (br_t rfl (xa_pto hp)))), fun post hp => YT post 0 (fun n => br_t rt_64e (br_f o1 (br_t c0 (br_f m0 (br_t s0 (br_t t0 (ya_pto (br_f l0 (br_t rfl hp))))))))), fun post hp => YT post 1 (fun n => br_t rt_64e (br_f o1 (br_t c0 (br_f m0 (br_t s0 (br_t t0 (ya_pto (br_f l0 (br_f (by decide) (ya_pto hp))))))))))⟩
        · exact ⟨3, _, Or.inr (Or.inr (Or.inr rfl)), fun post hp => XK post (br_f m0 (br_t s0 (br_f t0 hp))), A3, fun post hp => YT post 0 (fun n => br_t rt_64e (br_f o1 (br_t c0 (br_f m0 (br_t s0 (br_f t0 (br_t rfl hp))))))), fun post hp => YT post 1 (fun n => br_t rt_64e (br_f o1 (br_t c0 (br_f m0 (br_t s0 (br_f t0 (br_f (by decide) hp)))))))⟩
      · exact ⟨3, _, Or.inr (Or.inr (Or.inr rfl)), fun post hp => XK post (br_f m0 (br_f s0 hp)), A3, fun post hp => YT post 0 (fun n => br_t rt_64e (br_f o1 (br_t c0 (br_f m0 (br_f s0 (br_t rfl hp)))))), fun post hp => YT post 1 (fun n => br_t rt_64e (br_f o1 (br_t c0 (br_f m0 (br_f s0 (br_f (by decide) hp))))))⟩
    · have c1 : ¬ rt_b (rt_fo (rt_ca sd dl lo la rx) (fun s => (ta (la s).toNatClampNeg + rr) + rt_rw ms sr mr rm) nx).1 = 0 := by rw [rt_fo_1 hi hi1]; decide
      refine ⟨1, (rt_fo (rt_ca sd dl lo la rx) (fun s => (ta (la s).toNatClampNeg + rr) + rt_rw ms sr mr rm) nx).2, Or.inr (Or.inl rfl), fun post hp => ?_, fun post hp => br_f (by decide) (br_f (by decide) (br_t rfl (xa_re hx hL hp))), fun post hp => YT post 0 (fun n => br_t rt_64e (br_f o1 (br_f c1 (br_t rfl hp)))), fun post hp => YT post 1 (fun n => br_t rt_64e (br_f o1 (br_f c1 (br_f (by decide) hp))))⟩
      unfold wpX_timerKind
      exact xa_lo hx (fun k hk e => br_t (nI_pos' (by omega)) (xa_lc hx (fun k hk e => br_f (nI_pos (by omega)) hp) (fun z => by rw [z i hi] at hi1; exact absurd hi1 (by decide)))) oz
end
