/-! costs: reading and applying, both sides at once -/
section
variable {lm pn wp sr sc se fl sp pt sg el rs sn wy ya vv vt ot ra br : Int32} {en oc : Int64} {it le pe op kd nu co cl ap rd si bg ct ls hd hk hc vl tk cn lf la pc yb yh yk ho vs os : Nat → Int32}
theorem xr_pay1 {L p : Nat} (hL : L ≤ 150) (h : p < L) {post : Int32 → SX → Prop} (hp : post 1 (nI L, pn, wp, sr, sc, se, fl, nI (p + 1), en, pt, sg, el, rs, sn, it, le, pe, op, kd, nu, co, cl, ap, rd, si, bg, ct, ls, hd, hk, hc, vl)) : wpX_pays post (nI L, pn, wp, sr, sc, se, fl, nI p, en, pt, sg, el, rs, sn, it, le, pe, op, kd, nu, co, cl, ap, rd, si, bg, ct, ls, hd, hk, hc, vl) :=
  br_t (nI_lt h (by omega)) (nm_r (nI_1 _) hp)
theorem xr_pay0 {L : Nat} {post : Int32 → SX → Prop} (hp : post 0 (nI L, pn, wp, sr, sc, se, fl, nI L, 9000000000000000001, pt, sg, el, rs, sn, it, le, pe, op, kd, nu, co, cl, ap, rd, si, bg, ct, ls, hd, hk, hc, vl)) : wpX_pays post (nI L, pn, wp, sr, sc, se, fl, nI L, en, pt, sg, el, rs, sn, it, le, pe, op, kd, nu, co, cl, ap, rd, si, bg, ct, ls, hd, hk, hc, vl) :=
  br_f (Int32.lt_irrefl) hp
theorem yr_pay1 {L p : Nat} (hL : L ≤ 150) (h : p < L) {post : Int32 → SY → Prop} (hp : post 1 (nI L, sr, sc, wy, nI (p + 1), ya, se, fl, vv, vt, ot, ra, br, oc, it, le, tk, cn, kd, nu, lf, la, pc, yb, yh, yk, ho, ap, rd, si, vs, os)) : wpY_pay post (nI L, sr, sc, wy, nI p, ya, se, fl, vv, vt, ot, ra, br, oc, it, le, tk, cn, kd, nu, lf, la, pc, yb, yh, yk, ho, ap, rd, si, vs, os) :=
  br_f (by rw [nI_eq (by omega) (by omega)]; omega) (nm_r (nI_1 _) hp)
theorem yr_pay0 {L : Nat} {post : Int32 → SY → Prop} (hp : post 0 (nI L, sr, sc, wy, nI L, ya, se, fl, vv, vt, ot, ra, br, 9000000000000000001, it, le, tk, cn, kd, nu, lf, la, pc, yb, yh, yk, ho, ap, rd, si, vs, os)) : wpY_pay post (nI L, sr, sc, wy, nI L, ya, se, fl, vv, vt, ot, ra, br, oc, it, le, tk, cn, kd, nu, lf, la, pc, yb, yh, yk, ho, ap, rd, si, vs, os) :=
  br_t rfl hp
theorem xr_rd1 {L p j i : Nat} (hL : L ≤ 150) (h : p < L) (hj : j < 3) (hi : i < 24) {post : Int32 → SX → Prop} (hp : post 1 (nI L, pn, wp, sr, sc, se, fl, nI (p + 1), en, pt, sg, el, it (24 * j + i), sn, it, le, pe, op, kd, nu, co, cl, ap, upd rd j (rd j + 1), si, bg, ct, ls, hd, hk, hc, vl)) : wpX_reads post (nI L, pn, wp, sr, sc, se, fl, nI p, en, pt, sg, el, rs, sn, it, le, pe, op, kd, nu, co, cl, ap, rd, si, bg, ct, ls, hd, hk, hc, vl) (nI j) (nI i) := by
  have e1 : (nI j).toNatClampNeg = j := nI_clamp (by omega)
  have e2 : nI j * 24 + nI i = nI (24 * j + i) := by
    rw [show (24 : Int32) = nI 24 from rfl, pk_mul, nI_add]; exact congrArg nI (by omega)
  have hin : vp_in (nI j) 3 := vp_in_nI hj (by omega)
  unfold wpX_reads
  refine xr_pay1 hL h ?_
  refine br_f (by decide) ⟨hin, hin, nm_r (e' := upd rd j (rd j + 1)) (by rw [e1]) ⟨?_, nm_r (e' := it (24 * j + i)) ?_ hp⟩⟩
  · rw [e2]; exact vp_in_nI (by omega) (by omega)
  · rw [e2, nI_clamp (by omega)]
theorem xr_rd0 {L : Nat} {a b : Int32} {post : Int32 → SX → Prop} (hp : post 0 (nI L, pn, wp, sr, sc, se, fl, nI L, 9000000000000000001, pt, sg, el, rs, sn, it, le, pe, op, kd, nu, co, cl, ap, rd, si, bg, ct, ls, hd, hk, hc, vl)) : wpX_reads post (nI L, pn, wp, sr, sc, se, fl, nI L, en, pt, sg, el, rs, sn, it, le, pe, op, kd, nu, co, cl, ap, rd, si, bg, ct, ls, hd, hk, hc, vl) a b := by
  unfold wpX_reads
  refine xr_pay0 ?_
  exact br_t rfl hp
theorem yr_ft1 {L p j i n : Nat} (hL : L ≤ 150) (h : p < L) (hj : j < 3) (hn : n ≤ 24) (hle : le j = nI n) (hi : i < n) {post : Int32 → SY → Prop} (hp : post 1 (nI L, sr, sc, wy, nI (p + 1), ya, se, fl, it (24 * j + i), vt, ot, ra, br, oc, it, le, tk, cn, kd, nu, lf, la, pc, yb, yh, yk, ho, ap, upd rd j (rd j + 1), si, vs, os)) : wpY_fetch post (nI L, sr, sc, wy, nI p, ya, se, fl, vv, vt, ot, ra, br, oc, it, le, tk, cn, kd, nu, lf, la, pc, yb, yh, yk, ho, ap, rd, si, vs, os) (nI j) (nI i) := by
  have e1 : (nI j).toNatClampNeg = j := nI_clamp (by omega)
  have e2 : 24 * nI j + nI i = nI (24 * j + i) := by
    rw [show (24 : Int32) = nI 24 from rfl, pk_mul, nI_add]
  have hin : vp_in (nI j) 3 := vp_in_nI hj (by omega)
  refine ⟨hin, br_t (by rw [e1, hle]; exact nI_lt hi (by omega)) ?_⟩
  refine yr_pay1 hL h ?_
  refine br_f (by decide) ⟨hin, hin, nm_r (e' := upd rd j (rd j + 1)) (by rw [e1]) ⟨?_, nm_r (e' := it (24 * j + i)) ?_ hp⟩⟩
  · rw [e2]; exact vp_in_nI (by omega) (by omega)
  · rw [e2, nI_clamp (by omega)]
theorem yr_ft0 {L j i n : Nat} (hj : j < 3) (hn : n ≤ 24) (hle : le j = nI n) (hi : i < n) {post : Int32 → SY → Prop} (hp : post 3 (nI L, sr, sc, wy, nI L, ya, se, fl, vv, vt, ot, ra, br, 9000000000000000001, it, le, tk, cn, kd, nu, lf, la, pc, yb, yh, yk, ho, ap, rd, si, vs, os)) : wpY_fetch post (nI L, sr, sc, wy, nI L, ya, se, fl, vv, vt, ot, ra, br, oc, it, le, tk, cn, kd, nu, lf, la, pc, yb, yh, yk, ho, ap, rd, si, vs, os) (nI j) (nI i) := by
  have e1 : (nI j).toNatClampNeg = j := nI_clamp (by omega)
  refine ⟨vp_in_nI hj (by omega), br_t (by rw [e1, hle]; exact nI_lt hi (by omega)) ?_⟩
  refine yr_pay0 ?_
  exact br_t rfl hp
theorem yr_ftE {j i n : Nat} (hj : j < 3) (hn : n ≤ 24) (hle : le j = nI n) (hi : n ≤ i) (hi2 : i < 2 ^ 31) {post : Int32 → SY → Prop} (hp : post 0 (lm, sr, sc, wy, sp, ya, se, fl, vv, vt, ot, ra, br, oc, it, le, tk, cn, kd, nu, lf, la, pc, yb, yh, yk, ho, ap, rd, si, vs, os)) : wpY_fetch post (lm, sr, sc, wy, sp, ya, se, fl, vv, vt, ot, ra, br, oc, it, le, tk, cn, kd, nu, lf, la, pc, yb, yh, yk, ho, ap, rd, si, vs, os) (nI j) (nI i) := by
  have e1 : (nI j).toNatClampNeg = j := nI_clamp (by omega)
  exact ⟨vp_in_nI hj (by omega), br_f (by rw [e1, hle, nI_ltI hi2 (by omega)]; omega) hp⟩
/-- an application: both sides stop with the same outcome, or both get the same value -/
theorem rn_ap {L p s : Nat} (hL : L ≤ 150) (hp : p ≤ L) (hs : s < 8) (hE : rl_Ex co cl tk cn s) (x y : Int32) :
    (∃ (e : Int64) (p' : Nat) (fl' vv' vt' ot' br' : Int32) (ap' vl' vs' os' : Nat → Int32), e ≠ 0 ∧
      (∀ post : Int32 → SX → Prop, post 0 (nI L, pn, wp, sr, sc, se, fl', nI p', e, pt, sg, el, rs, sn, it, le, pe, op, kd, nu, co, cl, ap', rd, si, bg, ct, ls, hd, hk, hc, vl') → wpX_applies post (nI L, pn, wp, sr, sc, se, fl, nI p, en, pt, sg, el, rs, sn, it, le, pe, op, kd, nu, co, cl, ap, rd, si, bg, ct, ls, hd, hk, hc, vl) (nI s) x y) ∧
      (∀ post : Int32 → SY → Prop, post 0 (nI L, sr, sc, wy, nI p', ya, se, fl', vv', vt', ot', ra, br', e, it, le, tk, cn, kd, nu, lf, la, pc, yb, yh, yk, ho, ap', rd, si, vs', os') → wpY_apply post (nI L, sr, sc, wy, nI p, ya, se, fl, vv, vt, ot, ra, br, oc, it, le, tk, cn, kd, nu, lf, la, pc, yb, yh, yk, ho, ap, rd, si, vs, os) (nI s) x y)) ∨
    (p < L ∧ ∃ (v vt' ot' br' : Int32) (vl' vs' os' : Nat → Int32),
      (∀ post : Int32 → SX → Prop, post 1 (nI L, pn, wp, sr, sc, se, fl, nI (p + 1), en, pt, sg, el, v, sn, it, le, pe, op, kd, nu, co, cl, upd ap s (ap s + 1), rd, si, bg, ct, ls, hd, hk, hc, vl') → wpX_applies post (nI L, pn, wp, sr, sc, se, fl, nI p, en, pt, sg, el, rs, sn, it, le, pe, op, kd, nu, co, cl, ap, rd, si, bg, ct, ls, hd, hk, hc, vl) (nI s) x y) ∧
      (∀ post : Int32 → SY → Prop, post 1 (nI L, sr, sc, wy, nI (p + 1), ya, se, fl, v, vt', ot', ra, br', oc, it, le, tk, cn, kd, nu, lf, la, pc, yb, yh, yk, ho, upd ap s (ap s + 1), rd, si, vs', os') → wpY_apply post (nI L, sr, sc, wy, nI p, ya, se, fl, vv, vt, ot, ra, br, oc, it, le, tk, cn, kd, nu, lf, la, pc, yb, yh, yk, ho, ap, rd, si, vs, os) (nI s) x y)) := by
  by_cases h : p < L
  · obtain ⟨tq, N, e1, e2, e3, e4, e5, e6⟩ := hE
    have hf := ex_fin e2
    have hlen : (ex_code tq N).length ≤ 16 := by have := hf.2.2.2.2; simp at this; omega
    have h1g : ex_hgt (ex_code tq N) 0 = 1 := hf.2.2.2.1
    have hcs : (nI s).toNatClampNeg = s := nI_clamp (by omega)
    have his : vp_in (nI s) 8 := vp_in_nI hs (by omega)
    obtain ⟨vl', hx⟩ := xr_apploop (pn := pn) (wp := wp) (sr := sr) (sc := sc) (se := se) (fl := fl) (en := en) (pt := pt) (sg := sg) (el := el) (rs := rs) (sn := sn) (it := it) (le := le) (pe := pe) (op := op) (kd := kd) (nu := nu) (co := co) (cl := cl) (rd := rd) (si := si) (bg := bg) (ct := ct) (ls := ls) (hd := hd) (hk := hk) (hc := hc) (lm := nI L) (sp := nI (p + 1)) (ap := upd ap s (ap s + 1)) s hs x y (ap s) (ex_code tq N) hlen hf.2.2.1 e5 h1g (ex_code tq N).length 0 (by omega) vl rfl trivial
    obtain ⟨vt', ot', vs', os', hy⟩ := yr_value (sr := sr) (sc := sc) (wy := wy) (ya := ya) (se := se) (fl := fl) (vv := vv) (vt := vt) (ot := ot) (ra := ra) (br := br) (oc := oc) (it := it) (le := le) (tk := tk) (cn := cn) (kd := kd) (nu := nu) (lf := lf) (la := la) (pc := pc) (yb := yb) (yh := yh) (yk := yk) (ho := ho) (rd := rd) (si := si) (vs := vs) (os := os) (lm := nI L) (sp := nI (p + 1)) (ap := upd ap s (ap s + 1)) s hs tq N e1 e2 e3 e4 x y (ap s)
    have hXs : ∀ post : Int32 → SX → Prop, (∃ n, wX_applies_51 post (nI s) x y (ap s) (nI (16 * s + (ex_code tq N).length)) (nI L) pn wp sr sc se fl (nI (p + 1)) en pt sg el rs sn n 0 (nI (16 * s)) it le pe op kd nu co cl (upd ap s (ap s + 1)) rd si bg ct ls hd hk hc vl) → wpX_applies post (nI L, pn, wp, sr, sc, se, fl, nI p, en, pt, sg, el, rs, sn, it, le, pe, op, kd, nu, co, cl, ap, rd, si, bg, ct, ls, hd, hk, hc, vl) (nI s) x y := by
      intro post hq
      unfold wpX_applies
      refine xr_pay1 hL h ?_
      refine br_f (by decide) ⟨his, nm_r (e' := ap s) (by rw [hcs]) ⟨his, his, nm_r (e' := upd ap s (ap s + 1)) (by rw [hcs]) (nm_r (e' := nI (16 * s)) ?_ ⟨his, nm_r (e' := nI (16 * s + (ex_code tq N).length)) ?_ hq⟩)⟩⟩
      · rw [show (16 : Int32) = nI 16 from rfl, pk_mul]; exact congrArg nI (by omega)
      · rw [hcs, e6, nI_add]
    have hYs : ∀ post : Int32 → SY → Prop, wpY_value (fun r_39 u => match u with | (f_limit_40, f_source_41, f_stages_42, f_wrongAt_43, f_paid_44, f_at_45, f_seenCount_46, f_failedAt_47, f_v_48, f_valTop_49, f_opTop_50, f_ran_51, f_broken_52, f_outcome_53, a_lists_54, a_sizes_55, a_tokens_56, a_counts_57, a_kinds_58, a_numbers_59, a_left_60, a_last_61, a_place_62, a_begun_63, a_held_64, a_keys_65, a_holds_66, a_applied_67, a_reads_68, a_seen_69, a_vals_70, a_ops_71) => (((f_broken_52 = 0 → (wY_apply_54 post f_limit_40 f_source_41 f_stages_42 f_wrongAt_43 f_paid_44 f_at_45 f_seenCount_46 f_failedAt_47 r_39 f_valTop_49 f_opTop_50 f_ran_51 f_broken_52 f_outcome_53 a_lists_54 a_sizes_55 a_tokens_56 a_counts_57 a_kinds_58 a_numbers_59 a_left_60 a_last_61 a_place_62 a_begun_63 a_held_64 a_keys_65 a_holds_66 a_applied_67 a_reads_68 a_seen_69 a_vals_70 a_ops_71)) ∧ (¬ f_broken_52 = 0 → (wY_apply_54 post f_limit_40 f_source_41 f_stages_42 f_wrongAt_43 f_paid_44 f_at_45 f_seenCount_46 (nI s) r_39 f_valTop_49 f_opTop_50 f_ran_51 f_broken_52 9000000000000000002 a_lists_54 a_sizes_55 a_tokens_56 a_counts_57 a_kinds_58 a_numbers_59 a_left_60 a_last_61 a_place_62 a_begun_63 a_held_64 a_keys_65 a_holds_66 a_applied_67 a_reads_68 a_seen_69 a_vals_70 a_ops_71))))) (nI L, sr, sc, wy, nI (p + 1), ya, se, fl, vv, vt, ot, ra, br, oc, it, le, tk, cn, kd, nu, lf, la, pc, yb, yh, yk, ho, upd ap s (ap s + 1), rd, si, vs, os) (nI s) x y (ap s) → wpY_apply post (nI L, sr, sc, wy, nI p, ya, se, fl, vv, vt, ot, ra, br, oc, it, le, tk, cn, kd, nu, lf, la, pc, yb, yh, yk, ho, ap, rd, si, vs, os) (nI s) x y := by
      intro post hq
      unfold wpY_apply
      refine yr_pay1 hL h ?_
      exact br_f (by decide) ⟨his, his, nm_r (e' := upd ap s (ap s + 1)) (by rw [hcs]) (nm_r (e' := ap s) (by rw [hcs]) hq)⟩
    rcases hx with ⟨hb, hx⟩ | ⟨hb, hx⟩
    · refine Or.inr ⟨h, (ex_ev x y (ap s) (ex_code tq N)).1.headD 0, vt', ot', 0, vl', vs', os', fun post hq => hXs post ⟨_, hx post _ (Nat.lt_succ_self _) hq⟩, fun post hq => hYs post (hy _ ?_)⟩
      rw [hb]
      exact br_t rfl (br_t rfl hq)
    · refine Or.inl ⟨9000000000000000002, p + 1, nI s, (ex_ev x y (ap s) (ex_code tq N)).1.headD 0, vt', ot', 1, upd ap s (ap s + 1), vl', vs', os', by decide, fun post hq => hXs post ⟨_, hx post _ (Nat.lt_succ_self _) hq⟩, fun post hq => hYs post (hy _ ?_)⟩
      rw [hb]
      exact br_f (by decide) (br_f (by decide) hq)
  · have : p = L := by omega
    subst this
    refine Or.inl ⟨9000000000000000001, p, fl, vv, vt, ot, br, ap, vl, vs, os, by decide, fun post hq => ?_, fun post hq => ?_⟩
    · unfold wpX_applies
      refine xr_pay0 ?_
      exact br_t rfl hq
    · unfold wpY_apply
      refine yr_pay0 ?_
      exact br_t rfl hq
end
