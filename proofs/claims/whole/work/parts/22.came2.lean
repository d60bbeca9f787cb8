theorem sr_least (a : Nat → Int32) (y : Int32) : ∀ n : Nat, (∀ i, i < n → ¬ a i = y) ∨ ∃ i0 : Nat, i0 < n ∧ a i0 = y ∧ ∀ i, i < i0 → ¬ a i = y
  | 0 => Or.inl (fun i hi => absurd hi (by omega))
  | n + 1 => by
    rcases sr_least a y n with h | ⟨i0, h1, h2, h3⟩
    · by_cases e : a n = y
      · exact Or.inr ⟨n, by omega, e, h⟩
      · refine Or.inl (fun i hi => ?_)
        by_cases ei : i = n
        · rw [ei]; exact e
        · exact h i (by omega)
    · exact Or.inr ⟨i0, by omega, h2, h3⟩
section
variable {lm pn wp sr sc se fl sp pt sg el rs sn wy ya vv vt ot ra br : Int32} {en oc : Int64} {it le pe op kd nu co cl ap rd si bg ct ls hd hk hc vl tk cn lf la pc yb yh yk ho vs os : Nat → Int32}
variable {bg' ct' ls' hd' hk' hc' lf' la' pc' yb' yh' yk' ho' : Nat → Int32} {S L m q s sgn k : Nat} {g e r b : Nat → Nat} {x y : Int32}
theorem cm_10 (hkd : ∀ t, t < S → (kd t).toNatClampNeg ≤ 16) (hS : S ≤ 8) (hL : L ≤ 150) (hs : s < S) (hv : vp_in x 8) (hx : x.toNatClampNeg = s) (h : dd_D S L m le kd nu g e r b 1 (s + 1) q sn ya bg ct ls hd hk hc lf la pc yb yh yk ho) (hk0 : kd s = nI 10) (hE : rl_Ex co cl tk cn s) {mm n : Nat} (hmm : mm < 3) (hn : n ≤ 24) (hnu : nu s = nI mm) (hle : le mm = nI n) : ∃ (act : Int32) (u1 : SX) (v1 : SY), (∀ post : SX → Prop, post u1 → wpX_elementCame post (nI L, pn, wp, nI m, nI S, se, fl, nI q, 0, nI s, 1, y, rs, sn, it, le, pe, op, kd, nu, co, cl, ap, rd, si, bg, ct, ls, hd, hk, hc, vl) x y) ∧ (∀ post : Int32 → SY → Prop, post act v1 → wpY_came post (nI L, nI m, nI S, wy, nI q, ya, se, fl, y, vt, ot, ra, br, oc, it, le, tk, cn, kd, nu, lf, la, pc, yb, yh, yk, ho, ap, rd, si, vs, os) x) ∧ rr_N pn wp se wy ra it le pe op kd nu co cl si tk cn L S m (rn_P S g b 1 (s + 1)) (s + 1) act u1 v1 := by
  have hkc : (kd s).toNatClampNeg = 10 := by rw [hk0]; exact nI_clamp (by omega)
  have hPb := dd_bound hS hL (by omega) h
  obtain ⟨j, hj, hyp, hxc⟩ := dd_get h hs hk0 (by omega)
  rw [zl_eq hnu hmm hle hn] at hxc
  have hmi : vp_in (nI mm) 3 := vp_in_nI hmm (by omega)
  have hmc : (nI mm).toNatClampNeg = mm := nI_clamp (by omega)
  have hlm : le (nI mm).toNatClampNeg = nI n := by rw [hmc]; exact hle
  have hy1 : pc s + 1 = nI (j + 1) := by rw [hyp, nI_1]
  by_cases hjn : j < n
  · rw [Nat.min_eq_left (by omega)] at hxc
    have hlt : ct s < nI n := by rw [hxc]; exact nI_lt hjn (by omega)
    by_cases hq : q < L
    · rcases rn_apx (pn := pn) (wp := wp) (se := se) (fl := fl) (sn := sn) (it := it) (le := le) (pe := pe) (op := op) (kd := kd) (nu := nu) (co := co) (cl := cl) (ap := ap) (si := si) (bg := bg) (ls := ls) (hd := hd) (hk := hk) (hc := hc) (vl := vl) (wy := wy) (ya := ya) (vt := vt) (ot := ot) (ra := ra) (br := br) (oc := oc) (tk := tk) (cn := cn) (lf := lf) (la := la) (yb := yb) (yh := yh) (yk := yk) (ho := ho) (vs := vs) (os := os) (sr := nI m) (sc := nI S) (en := 0) (pt := nI s) (sg := 1) (el := y) (vv := it (24 * mm + j)) (rs := it (24 * mm + j)) (rd := upd rd mm (rd mm + 1)) (ct := upd ct s (ct s + 1)) (pc := upd pc s (nI (j + 1))) (p := q + 1) hL (by omega) hv hx hE y (it (24 * mm + j)) with ⟨oe, p', fl', vv', vt', ot', br', ap', vl', vs', os', w1, w2, w3⟩ | ⟨hq2, v, vt', ot', br', vl', vs', os', w2, w3⟩
      · refine ⟨3, (nI L, pn, wp, nI m, nI S, se, fl', nI p', oe, nI s, 1, y, it (24 * mm + j), sn, it, le, pe, op, kd, nu, co, cl, ap', upd rd mm (rd mm + 1), si, bg, upd ct s (ct s + 1), ls, hd, hk, hc, vl'), (nI L, nI m, nI S, wy, nI p', ya, se, fl', vv', vt', ot', ra, br', oe, it, le, tk, cn, kd, nu, lf, la, upd pc s (nI (j + 1)), yb, yh, yk, ho, ap', upd rd mm (rd mm + 1), si, vs', os'), fun post hp => ?_, fun post hp => ?_, md_out w1⟩
        · subst hx
          refine ⟨hv, nm_r hk0 (br_f (by decide) (br_f (by decide) (br_f (by decide) (br_f (by decide) (br_f (by decide) (br_f (by decide) (br_f (by decide) (br_f (by decide) (br_f (by decide) (br_f (by decide) (br_f (by decide) (br_f (by decide) (br_t rfl (⟨hv, nm_r hnu ⟨hv, hmi, br_t (by rw [hlm]; exact hlt) ⟨hv, ?_⟩⟩⟩))))))))))))))⟩
          rw [hxc]
          refine xr_rd1 hL hq hmm (by omega) ?_
          rw [hxc] at w2 hp
          exact br_f (by decide) ⟨hv, hv, nm_r (by rw [hxc]) (w2 _ (br_t rfl hp))⟩
        · subst hx
          refine ⟨hv, nm_r hk0 (br_f (by decide) (br_f (by decide) (br_f (by decide) (br_f (by decide) (br_f (by decide) (br_f (by decide) (br_f (by decide) (br_f (by decide) (br_f (by decide) (br_f (by decide) (br_f (by decide) (br_f (by decide) (br_t rfl (⟨hv, hv, hv, nm_r (by rw [hy1]) ?_⟩))))))))))))))⟩
          rw [hnu, hyp]
          refine yr_ft1 hL hq hmm hn hle hjn ?_
          exact br_t rfl (w3 _ (br_t rfl hp))
      · refine ⟨1, (nI L, pn, wp, nI m, nI S, se, fl, nI (q + 1 + 1), 0, nI (s + 1), 1, v, v, sn, it, le, pe, op, kd, nu, co, cl, upd ap s (ap s + 1), upd rd mm (rd mm + 1), si, bg, upd ct s (ct s + 1), ls, hd, hk, hc, vl'), (nI L, nI m, nI S, wy, nI (q + 1 + 1), ya, se, fl, v, vt', ot', ra, br', oc, it, le, tk, cn, kd, nu, lf, la, upd pc s (nI (j + 1)), yb, yh, yk, ho, upd ap s (ap s + 1), upd rd mm (rd mm + 1), si, vs', os'), fun post hp => ?_, fun post hp => ?_, md_give v hkd hS hs h (k := 10) (r1 := r s) ⟨fun t ht => by simp [pk_un ht], fun i hi => ⟨rfl, rfl⟩, fun i hi => ⟨rfl, rfl⟩⟩ (Or.inr rfl) (Or.inr ⟨rfl, Nat.le_refl _⟩) (by omega) (by omega) hkc (fun P' hP => ?_)⟩
        · subst hx
          refine ⟨hv, nm_r hk0 (br_f (by decide) (br_f (by decide) (br_f (by decide) (br_f (by decide) (br_f (by decide) (br_f (by decide) (br_f (by decide) (br_f (by decide) (br_f (by decide) (br_f (by decide) (br_f (by decide) (br_f (by decide) (br_t rfl (⟨hv, nm_r hnu ⟨hv, hmi, br_t (by rw [hlm]; exact hlt) ⟨hv, ?_⟩⟩⟩))))))))))))))⟩
          rw [hxc]
          refine xr_rd1 hL hq hmm (by omega) ?_
          rw [hxc] at w2 hp
          exact br_f (by decide) ⟨hv, hv, nm_r (by rw [hxc]) (w2 _ (br_f (by decide) (xr_give hp)))⟩
        · subst hx
          refine ⟨hv, nm_r hk0 (br_f (by decide) (br_f (by decide) (br_f (by decide) (br_f (by decide) (br_f (by decide) (br_f (by decide) (br_f (by decide) (br_f (by decide) (br_f (by decide) (br_f (by decide) (br_f (by decide) (br_f (by decide) (br_t rfl (⟨hv, hv, hv, nm_r (by rw [hy1]) ?_⟩))))))))))))))⟩
          rw [hnu, hyp]
          refine yr_ft1 hL hq hmm hn hle hjn ?_
          exact br_t rfl (w3 _ (br_f (by decide) hp))
        · refine ⟨j + 1, by omega, pk_us, ?_⟩
          rw [pk_us, hxc, nI_1, zl_eq hnu hmm hle hn, Nat.min_eq_left (by omega)]
    · have : L = q := by have := h.1; omega
      subst this
      refine ⟨3, (nI L, pn, wp, nI m, nI S, se, fl, nI L, 9000000000000000001, nI s, 1, y, rs, sn, it, le, pe, op, kd, nu, co, cl, ap, rd, si, bg, ct, ls, hd, hk, hc, vl), (nI L, nI m, nI S, wy, nI L, ya, se, fl, y, vt, ot, ra, br, 9000000000000000001, it, le, tk, cn, kd, nu, lf, la, upd pc s (nI (j + 1)), yb, yh, yk, ho, ap, rd, si, vs, os), fun post hp => ?_, fun post hp => ?_, md_out (oe := 9000000000000000001) (by decide)⟩
      · subst hx
        refine ⟨hv, nm_r hk0 (br_f (by decide) (br_f (by decide) (br_f (by decide) (br_f (by decide) (br_f (by decide) (br_f (by decide) (br_f (by decide) (br_f (by decide) (br_f (by decide) (br_f (by decide) (br_f (by decide) (br_f (by decide) (br_t rfl (⟨hv, nm_r hnu ⟨hv, hmi, br_t (by rw [hlm]; exact hlt) ⟨hv, xr_rd0 ?_⟩⟩⟩))))))))))))))⟩
        exact br_t rfl hp
      · subst hx
        refine ⟨hv, nm_r hk0 (br_f (by decide) (br_f (by decide) (br_f (by decide) (br_f (by decide) (br_f (by decide) (br_f (by decide) (br_f (by decide) (br_f (by decide) (br_f (by decide) (br_f (by decide) (br_f (by decide) (br_f (by decide) (br_t rfl (⟨hv, hv, hv, nm_r (by rw [hy1]) ?_⟩))))))))))))))⟩
        rw [hnu, hyp]
        refine yr_ft0 hmm hn hle hjn ?_
        exact br_f (by decide) hp
  · rw [Nat.min_eq_right (by omega)] at hxc
    have hlt : ¬ ct s < nI n := by rw [hxc]; exact Int32.lt_irrefl
    refine ⟨0, (nI L, pn, wp, nI m, nI S, se, fl, nI q, 0, nI (s + 1), 2, y, rs, sn, it, le, pe, op, kd, nu, co, cl, ap, rd, si, bg, ct, ls, hd, hk, hc, vl), (nI L, nI m, nI S, wy, nI q, ya, se, fl, y, vt, ot, ra, br, oc, it, le, tk, cn, kd, nu, lf, la, upd pc s (nI (j + 1)), yb, yh, yk, ho, ap, rd, si, vs, os), fun post hp => ?_, fun post hp => ?_, md_end hkd hS hs h (k := 10) ⟨fun t ht => by simp [pk_un ht], fun i hi => ⟨rfl, rfl⟩, fun i hi => ⟨rfl, rfl⟩⟩ (Or.inr (Or.inl rfl)) (Nat.le_refl _) h.1 hkc (fun P' hP => ?_)⟩
    · subst hx
      exact ⟨hv, nm_r hk0 (br_f (by decide) (br_f (by decide) (br_f (by decide) (br_f (by decide) (br_f (by decide) (br_f (by decide) (br_f (by decide) (br_f (by decide) (br_f (by decide) (br_f (by decide) (br_f (by decide) (br_f (by decide) (br_t rfl (⟨hv, nm_r hnu ⟨hv, hmi, br_f (by rw [hlm]; exact hlt) (xr_end hp)⟩⟩))))))))))))))⟩
    · subst hx
      refine ⟨hv, nm_r hk0 (br_f (by decide) (br_f (by decide) (br_f (by decide) (br_f (by decide) (br_f (by decide) (br_f (by decide) (br_f (by decide) (br_f (by decide) (br_f (by decide) (br_f (by decide) (br_f (by decide) (br_f (by decide) (br_t rfl (⟨hv, hv, hv, nm_r (by rw [hy1]) ?_⟩))))))))))))))⟩
      rw [hnu, hyp]
      refine yr_ftE hmm hn hle (by omega) (by omega) ?_
      exact br_f (by decide) hp
    · refine ⟨j + 1, by omega, pk_us, ?_⟩
      rw [hxc, zl_eq hnu hmm hle hn, Nat.min_eq_right (by omega)]
theorem cm_12 (hkd : ∀ t, t < S → (kd t).toNatClampNeg ≤ 16) (hS : S ≤ 8) (hL : L ≤ 150) (hs : s < S) (hv : vp_in x 8) (hx : x.toNatClampNeg = s) (h : dd_D S L m le kd nu g e r b 1 (s + 1) q sn ya bg ct ls hd hk hc lf la pc yb yh yk ho) (hk0 : kd s = nI 12) (hE : rl_Ex co cl tk cn s) : ∃ (act : Int32) (u1 : SX) (v1 : SY), (∀ post : SX → Prop, post u1 → wpX_elementCame post (nI L, pn, wp, nI m, nI S, se, fl, nI q, 0, nI s, 1, y, rs, sn, it, le, pe, op, kd, nu, co, cl, ap, rd, si, bg, ct, ls, hd, hk, hc, vl) x y) ∧ (∀ post : Int32 → SY → Prop, post act v1 → wpY_came post (nI L, nI m, nI S, wy, nI q, ya, se, fl, y, vt, ot, ra, br, oc, it, le, tk, cn, kd, nu, lf, la, pc, yb, yh, yk, ho, ap, rd, si, vs, os) x) ∧ rr_N pn wp se wy ra it le pe op kd nu co cl si tk cn L S m (rn_P S g b 1 (s + 1)) (s + 1) act u1 v1 := by
  have hkc : (kd s).toNatClampNeg = 12 := by rw [hk0]; exact nI_clamp (by omega)
  obtain ⟨hbb, h01, hll⟩ := dd_get h hs hk0 (by omega)
  by_cases hb1 : bg s = 0
  · refine ⟨1, (nI L, pn, wp, nI m, nI S, se, fl, nI q, 0, nI (s + 1), 1, y, rs, sn, it, le, pe, op, kd, nu, co, cl, ap, rd, si, upd bg s (vp_nar .boolean 1), ct, upd ls s y, hd, hk, hc, vl), (nI L, nI m, nI S, wy, nI q, ya, se, fl, y, vt, ot, ra, br, oc, it, le, tk, cn, kd, nu, lf, upd la s y, pc, upd yb s (vp_nar .boolean 1), yh, yk, ho, ap, rd, si, vs, os), fun post hp => ?_, fun post hp => ?_, md_give y hkd hS hs h (k := 12) (r1 := r s) ⟨fun t ht => by simp [pk_un ht], fun i hi => ⟨rfl, rfl⟩, fun i hi => ⟨rfl, rfl⟩⟩ (Or.inr rfl) (Or.inr ⟨rfl, Nat.le_refl _⟩) (Nat.le_refl _) h.1 hkc (fun P' hP => ?_)⟩
    · subst hx
      exact ⟨hv, nm_r hk0 (br_f (by decide) (br_f (by decide) (br_f (by decide) (br_f (by decide) (br_f (by decide) (br_f (by decide) (br_f (by decide) (br_f (by decide) (br_f (by decide) (br_f (by decide) (br_f (by decide) (br_f (by decide) (br_f (by decide) (br_f (by decide) (br_t rfl (⟨hv, br_t hb1 ⟨hv, nm_e ⟨hv, nm_e (xr_give hp)⟩⟩⟩))))))))))))))))⟩
    · subst hx
      exact ⟨hv, nm_r hk0 (br_f (by decide) (br_t (by decide) (⟨hv, nm_r hk0 (br_f (by decide) (br_f (by decide) (br_t rfl (⟨hv, br_t (by rw [← hbb]; exact hb1) ⟨hv, nm_e ⟨hv, nm_e hp⟩⟩⟩))))⟩)))⟩
    · refine ⟨by rw [pk_us, pk_us], Or.inr (by rw [pk_us, vn_1]), fun _ => by rw [pk_us, pk_us]⟩
  · have hbe : bg s = 1 := h01.resolve_left hb1
    rcases rn_apx (pn := pn) (wp := wp) (se := se) (fl := fl) (rs := rs) (sn := sn) (it := it) (le := le) (pe := pe) (op := op) (kd := kd) (nu := nu) (co := co) (cl := cl) (ap := ap) (rd := rd) (si := si) (bg := bg) (ct := ct) (ls := ls) (hd := hd) (hk := hk) (hc := hc) (vl := vl) (wy := wy) (ya := ya) (vt := vt) (ot := ot) (ra := ra) (br := br) (oc := oc) (tk := tk) (cn := cn) (lf := lf) (la := la) (pc := pc) (yb := yb) (yh := yh) (yk := yk) (ho := ho) (vs := vs) (os := os) (sr := nI m) (sc := nI S) (en := 0) (pt := nI s) (sg := 1) (el := y) (vv := y) hL h.1 hv hx hE y (ls s) with ⟨oe, p', fl', vv', vt', ot', br', ap', vl', vs', os', w1, w2, w3⟩ | ⟨hq, v, vt', ot', br', vl', vs', os', w2, w3⟩
    · refine ⟨3, (nI L, pn, wp, nI m, nI S, se, fl', nI p', oe, nI s, 1, y, rs, sn, it, le, pe, op, kd, nu, co, cl, ap', rd, si, bg, ct, ls, hd, hk, hc, vl'), (nI L, nI m, nI S, wy, nI p', ya, se, fl', vv', vt', ot', ra, br', oe, it, le, tk, cn, kd, nu, lf, la, pc, yb, yh, yk, ho, ap', rd, si, vs', os'), fun post hp => ?_, fun post hp => ?_, md_out w1⟩
      · subst hx
        exact ⟨hv, nm_r hk0 (br_f (by decide) (br_f (by decide) (br_f (by decide) (br_f (by decide) (br_f (by decide) (br_f (by decide) (br_f (by decide) (br_f (by decide) (br_f (by decide) (br_f (by decide) (br_f (by decide) (br_f (by decide) (br_f (by decide) (br_f (by decide) (br_t rfl (⟨hv, br_f hb1 ⟨hv, w2 _ (br_t rfl hp)⟩⟩))))))))))))))))⟩
      · subst hx
        rw [hll hb1] at w3
        exact ⟨hv, nm_r hk0 (br_f (by decide) (br_t (by decide) (⟨hv, nm_r hk0 (br_f (by decide) (br_f (by decide) (br_t rfl (⟨hv, br_f (by rw [← hbb]; exact hb1) ⟨hv, w3 _ (br_t rfl hp)⟩⟩))))⟩)))⟩
    · refine ⟨1, (nI L, pn, wp, nI m, nI S, se, fl, nI (q + 1), 0, nI (s + 1), 1, v, v, sn, it, le, pe, op, kd, nu, co, cl, upd ap s (ap s + 1), rd, si, bg, ct, upd ls s v, hd, hk, hc, vl'), (nI L, nI m, nI S, wy, nI (q + 1), ya, se, fl, v, vt', ot', ra, br', oc, it, le, tk, cn, kd, nu, lf, upd la s v, pc, upd yb s (vp_nar .boolean 1), yh, yk, ho, upd ap s (ap s + 1), rd, si, vs', os'), fun post hp => ?_, fun post hp => ?_, md_give v hkd hS hs h (k := 12) (r1 := r s) ⟨fun t ht => by simp [pk_un ht], fun i hi => ⟨rfl, rfl⟩, fun i hi => ⟨rfl, rfl⟩⟩ (Or.inr rfl) (Or.inr ⟨rfl, Nat.le_refl _⟩) (by omega) (by omega) hkc (fun P' hP => ?_)⟩
      · subst hx
        exact ⟨hv, nm_r hk0 (br_f (by decide) (br_f (by decide) (br_f (by decide) (br_f (by decide) (br_f (by decide) (br_f (by decide) (br_f (by decide) (br_f (by decide) (br_f (by decide) (br_f (by decide) (br_f (by decide) (br_f (by decide) (br_f (by decide) (br_f (by decide) (br_t rfl (⟨hv, br_f hb1 ⟨hv, w2 _ (br_f (by decide) ⟨hv, nm_e (xr_give hp)⟩)⟩⟩))))))))))))))))⟩
      · subst hx
        rw [hll hb1] at w3
        exact ⟨hv, nm_r hk0 (br_f (by decide) (br_t (by decide) (⟨hv, nm_r hk0 (br_f (by decide) (br_f (by decide) (br_t rfl (⟨hv, br_f (by rw [← hbb]; exact hb1) ⟨hv, w3 _ (br_f (by decide) ⟨hv, nm_e ⟨hv, nm_e hp⟩⟩)⟩⟩))))⟩)))⟩
      · refine ⟨by rw [pk_us, vn_1]; exact hbe, Or.inr hbe, fun _ => by rw [pk_us, pk_us]⟩
theorem cm_13 (hkd : ∀ t, t < S → (kd t).toNatClampNeg ≤ 16) (hS : S ≤ 8) (hL : L ≤ 150) (hs : s < S) (hv : vp_in x 8) (hx : x.toNatClampNeg = s) (h : dd_D S L m le kd nu g e r b 1 (s + 1) q sn ya bg ct ls hd hk hc lf la pc yb yh yk ho) (hk0 : kd s = nI 13) : ∃ (act : Int32) (u1 : SX) (v1 : SY), (∀ post : SX → Prop, post u1 → wpX_elementCame post (nI L, pn, wp, nI m, nI S, se, fl, nI q, 0, nI s, 1, y, rs, sn, it, le, pe, op, kd, nu, co, cl, ap, rd, si, bg, ct, ls, hd, hk, hc, vl) x y) ∧ (∀ post : Int32 → SY → Prop, post act v1 → wpY_came post (nI L, nI m, nI S, wy, nI q, ya, se, fl, y, vt, ot, ra, br, oc, it, le, tk, cn, kd, nu, lf, la, pc, yb, yh, yk, ho, ap, rd, si, vs, os) x) ∧ rr_N pn wp se wy ra it le pe op kd nu co cl si tk cn L S m (rn_P S g b 1 (s + 1)) (s + 1) act u1 v1 := by
  have hkc : (kd s).toNatClampNeg = 13 := by rw [hk0]; exact nI_clamp (by omega)
  obtain ⟨hbb, h01, hll⟩ := dd_get h hs hk0 (by omega)
  by_cases hb1 : bg s = 0
  · refine ⟨2, (nI L, pn, wp, nI m, nI S, se, fl, nI q, 0, rn_aI s, 0, y, rs, sn, it, le, pe, op, kd, nu, co, cl, ap, rd, si, upd bg s (vp_nar .boolean 1), ct, upd ls s y, hd, hk, hc, vl), (nI L, nI m, nI S, wy, nI q, ya, se, fl, y - la s, vt, ot, ra, br, oc, it, le, tk, cn, kd, nu, lf, upd la s y, pc, upd yb s (vp_nar .boolean 1), yh, yk, ho, ap, rd, si, vs, os), fun post hp => ?_, fun post hp => ?_, md_ask hkd hS hs h (k := 13) (r1 := r s) ⟨fun t ht => by simp [pk_un ht], fun i hi => ⟨rfl, rfl⟩, fun i hi => ⟨rfl, rfl⟩⟩ (Or.inr rfl) (Or.inl (Nat.le_refl _)) (fun z => absurd z (by simp [rn_cl])) (Nat.le_refl _) h.1 hkc (fun P' hP => ?_)⟩
    · subst hx
      exact ⟨hv, nm_r hk0 (br_f (by decide) (br_f (by decide) (br_f (by decide) (br_f (by decide) (br_f (by decide) (br_f (by decide) (br_f (by decide) (br_f (by decide) (br_f (by decide) (br_f (by decide) (br_f (by decide) (br_f (by decide) (br_f (by decide) (br_f (by decide) (br_f (by decide) (br_t rfl (⟨hv, nm_e ⟨hv, nm_e ⟨hv, br_t hb1 ⟨hv, nm_e (xr_ask hp)⟩⟩⟩⟩)))))))))))))))))⟩
    · subst hx
      exact ⟨hv, nm_r hk0 (br_f (by decide) (br_t (by decide) (⟨hv, nm_r hk0 (br_f (by decide) (br_f (by decide) (br_f (by decide) (br_t rfl (⟨hv, br_t (by rw [← hbb]; exact hb1) ⟨hv, nm_e ⟨hv, nm_e ⟨hv, nm_e (br_f (by decide) hp)⟩⟩⟩⟩)))))⟩)))⟩
    · refine ⟨by rw [pk_us, pk_us], Or.inr (by rw [pk_us, vn_1]), fun _ => by rw [pk_us, pk_us]⟩
  · have hbe : bg s = 1 := h01.resolve_left hb1
    refine ⟨1, (nI L, pn, wp, nI m, nI S, se, fl, nI q, 0, nI (s + 1), 1, y - ls s, rs, sn, it, le, pe, op, kd, nu, co, cl, ap, rd, si, bg, ct, upd ls s y, hd, hk, hc, vl), (nI L, nI m, nI S, wy, nI q, ya, se, fl, y - ls s, vt, ot, ra, br, oc, it, le, tk, cn, kd, nu, lf, upd la s y, pc, upd yb s (vp_nar .boolean 1), yh, yk, ho, ap, rd, si, vs, os), fun post hp => ?_, fun post hp => ?_, md_give _ hkd hS hs h (k := 13) (r1 := r s) ⟨fun t ht => by simp [pk_un ht], fun i hi => ⟨rfl, rfl⟩, fun i hi => ⟨rfl, rfl⟩⟩ (Or.inr rfl) (Or.inr ⟨rfl, Nat.le_refl _⟩) (Nat.le_refl _) h.1 hkc (fun P' hP => ?_)⟩
    · subst hx
      exact ⟨hv, nm_r hk0 (br_f (by decide) (br_f (by decide) (br_f (by decide) (br_f (by decide) (br_f (by decide) (br_f (by decide) (br_f (by decide) (br_f (by decide) (br_f (by decide) (br_f (by decide) (br_f (by decide) (br_f (by decide) (br_f (by decide) (br_f (by decide) (br_f (by decide) (br_t rfl (⟨hv, nm_e ⟨hv, nm_e ⟨hv, br_f hb1 (xr_give hp)⟩⟩⟩)))))))))))))))))⟩
    · subst hx
      exact ⟨hv, nm_r hk0 (br_f (by decide) (br_t (by decide) (⟨hv, nm_r hk0 (br_f (by decide) (br_f (by decide) (br_f (by decide) (br_t rfl (⟨hv, br_f (by rw [← hbb]; exact hb1) ⟨hv, nm_r (by rw [hll hb1]) ⟨hv, nm_e ⟨hv, nm_e (br_t rfl hp)⟩⟩⟩⟩)))))⟩)))⟩
    · refine ⟨by rw [pk_us, vn_1]; exact hbe, Or.inr hbe, fun _ => by rw [pk_us, pk_us]⟩
theorem xr_hold (hv : vp_in x 8) (hx : x.toNatClampNeg = s) {n : Nat} (hn : n < 150) (hhc : hc s = nI n) (key : Int32) {post : SX → Prop} (hp : post (lm, pn, wp, sr, sc, se, fl, sp, en, pt, sg, el, rs, sn, it, le, pe, op, kd, nu, co, cl, ap, rd, si, bg, ct, ls, upd hd (150 * s + n) y, upd hk (150 * s + n) key, upd hc s (nI (n + 1)), vl)) : wpX_hold post (lm, pn, wp, sr, sc, se, fl, sp, en, pt, sg, el, rs, sn, it, le, pe, op, kd, nu, co, cl, ap, rd, si, bg, ct, ls, hd, hk, hc, vl) x y key := by
  subst hx
  have h8 := (vx_n hv).2
  have hin : vp_in (nI (150 * x.toNatClampNeg + n)) 1200 := vp_in_nI (by omega) (by omega)
  have hcc : (nI (150 * x.toNatClampNeg + n)).toNatClampNeg = 150 * x.toNatClampNeg + n := nI_clamp (by omega)
  refine ⟨hv, br_f (by rw [hhc]; exact nI_ge (b := 150) hn (by decide)) ⟨hv, nm_r (e' := nI (150 * x.toNatClampNeg + n)) (by rw [hhc]; exact vx_150 hv n) ⟨hin, nm_r (by rw [hcc]) ⟨hin, nm_r (by rw [hcc]) ⟨hv, hv, nm_r (by rw [hhc, nI_1]) hp⟩⟩⟩⟩⟩
theorem yr_hold (hv : vp_in x 8) (hx : x.toNatClampNeg = s) {n : Nat} (hn : n < 150) (hho : ho s = nI n) (key : Int32) {post : SY → Prop} (hp : post (lm, sr, sc, wy, sp, ya, se, fl, vv, vt, ot, ra, br, oc, it, le, tk, cn, kd, nu, lf, la, pc, yb, upd yh (160 * s + n) y, upd yk (160 * s + n) key, upd ho s (nI (n + 1)), ap, rd, si, vs, os)) : wpY_hold post (lm, sr, sc, wy, sp, ya, se, fl, vv, vt, ot, ra, br, oc, it, le, tk, cn, kd, nu, lf, la, pc, yb, yh, yk, ho, ap, rd, si, vs, os) x y key := by
  subst hx
  have h8 := (vx_n hv).2
  have e1 : 160 * x + ho x.toNatClampNeg = nI (160 * x.toNatClampNeg + n) := by rw [hho, vx_160 hv, nI_add]
  have hin : vp_in (160 * x + ho x.toNatClampNeg) 1280 := by rw [e1]; exact vp_in_nI (by omega) (by omega)
  have hcc : (160 * x + ho x.toNatClampNeg).toNatClampNeg = 160 * x.toNatClampNeg + n := by rw [e1, nI_clamp (by omega)]
  refine ⟨hv, hin, nm_r (by rw [hcc]) ⟨hv, hv, nm_r (by rw [hho, nI_1]) ⟨hin, nm_r (by rw [hcc]) hp⟩⟩⟩
theorem yr_find0 (hv : vp_in x 8) (hx : x.toNatClampNeg = s) {n : Nat} (hn : n ≤ 150) (hho : ho s = nI n) (hno : ∀ i, i < n → ¬ yk (160 * s + i) = y) {post : Int32 → Prop} (hp : post (-1)) : wpY_find post (lm, sr, sc, wy, sp, ya, se, fl, vv, vt, ot, ra, br, oc, it, le, tk, cn, kd, nu, lf, la, pc, yb, yh, yk, ho, ap, rd, si, vs, os) x y := by
  subst hx
  have h8 := (vx_n hv).2
  have key : ∀ (d i nf : Nat), i + d = n → d < nf → wY_find_2 post x y lm sr sc wy sp ya se fl vv vt ot ra br oc it le tk cn kd nu lf la pc yb yh yk ho ap rd si vs os nf (nI i) := by
    intro d
    induction d with
    | zero =>
      intro i nf hi hf
      obtain ⟨f, rfl⟩ : ∃ f, nf = f + 1 := ⟨nf - 1, by omega⟩
      exact ⟨hv, br_t (by rw [hho, nI_leI (by omega) (by omega)]; omega) hp⟩
    | succ d IH =>
      intro i nf hi hf
      obtain ⟨f, rfl⟩ : ∃ f, nf = f + 1 := ⟨nf - 1, by omega⟩
      have e1 : 160 * x + nI i = nI (160 * x.toNatClampNeg + i) := by rw [vx_160 hv, nI_add]
      refine ⟨hv, br_f (by rw [hho]; exact nI_ge (by omega) (by omega)) ⟨?_, br_f ?_ (nm_r (nI_1 _) (IH (i + 1) f (by omega) (by omega)))⟩⟩
      · rw [e1]; exact vp_in_nI (by omega) (by omega)
      · rw [e1, nI_clamp (by omega)]; exact hno i (by omega)
  exact ⟨_, key n 0 _ (by omega) (Nat.lt_succ_self _)⟩
theorem yr_find1 (hv : vp_in x 8) (hx : x.toNatClampNeg = s) {n i0 : Nat} (hn : n ≤ 150) (hho : ho s = nI n) (hi0 : i0 < n) (hyes : yk (160 * s + i0) = y) (hno : ∀ i, i < i0 → ¬ yk (160 * s + i) = y) {post : Int32 → Prop} (hp : post (nI i0)) : wpY_find post (lm, sr, sc, wy, sp, ya, se, fl, vv, vt, ot, ra, br, oc, it, le, tk, cn, kd, nu, lf, la, pc, yb, yh, yk, ho, ap, rd, si, vs, os) x y := by
  subst hx
  have h8 := (vx_n hv).2
  have key : ∀ (d i nf : Nat), i + d = i0 → d < nf → wY_find_2 post x y lm sr sc wy sp ya se fl vv vt ot ra br oc it le tk cn kd nu lf la pc yb yh yk ho ap rd si vs os nf (nI i) := by
    intro d
    induction d with
    | zero =>
      intro i nf hi hf
      obtain ⟨f, rfl⟩ : ∃ f, nf = f + 1 := ⟨nf - 1, by omega⟩
      have e1 : 160 * x + nI i = nI (160 * x.toNatClampNeg + i) := by rw [vx_160 hv, nI_add]
      have : i = i0 := by omega
      subst this
      refine ⟨hv, br_f (by rw [hho]; exact nI_ge (by omega) (by omega)) ⟨?_, br_t ?_ hp⟩⟩
      · rw [e1]; exact vp_in_nI (by omega) (by omega)
      · rw [e1, nI_clamp (by omega)]; exact hyes
    | succ d IH =>
      intro i nf hi hf
      obtain ⟨f, rfl⟩ : ∃ f, nf = f + 1 := ⟨nf - 1, by omega⟩
      have e1 : 160 * x + nI i = nI (160 * x.toNatClampNeg + i) := by rw [vx_160 hv, nI_add]
      refine ⟨hv, br_f (by rw [hho]; exact nI_ge (by omega) (by omega)) ⟨?_, br_f ?_ (nm_r (nI_1 _) (IH (i + 1) f (by omega) (by omega)))⟩⟩
      · rw [e1]; exact vp_in_nI (by omega) (by omega)
      · rw [e1, nI_clamp (by omega)]; exact hno i (by omega)
  exact ⟨_, key i0 0 _ (by omega) (Nat.lt_succ_self _)⟩
theorem cm_8 (hkd : ∀ t, t < S → (kd t).toNatClampNeg ≤ 16) (hS : S ≤ 8) (hL : L ≤ 150) (hs : s < S) (hv : vp_in x 8) (hx : x.toNatClampNeg = s) (h : dd_D S L m le kd nu g e r b 1 (s + 1) q sn ya bg ct ls hd hk hc lf la pc yb yh yk ho) (hk0 : kd s = nI 8) : ∃ (act : Int32) (u1 : SX) (v1 : SY), (∀ post : SX → Prop, post u1 → wpX_elementCame post (nI L, pn, wp, nI m, nI S, se, fl, nI q, 0, nI s, 1, y, rs, sn, it, le, pe, op, kd, nu, co, cl, ap, rd, si, bg, ct, ls, hd, hk, hc, vl) x y) ∧ (∀ post : Int32 → SY → Prop, post act v1 → wpY_came post (nI L, nI m, nI S, wy, nI q, ya, se, fl, y, vt, ot, ra, br, oc, it, le, tk, cn, kd, nu, lf, la, pc, yb, yh, yk, ho, ap, rd, si, vs, os) x) ∧ rr_N pn wp se wy ra it le pe op kd nu co cl si tk cn L S m (rn_P S g b 1 (s + 1)) (s + 1) act u1 v1 := by
  have hkc : (kd s).toNatClampNeg = 8 := by rw [hk0]; exact nI_clamp (by omega)
  obtain ⟨n, hng, hhc, hho, heq⟩ := dd_get h hs hk0 (by omega)
  have hn : n < 150 := by
    have a := h.1
    have c := h.2.2.2.1 (s + 1) (by omega)
    have d := h.2.2.2.2.2.1 s hs rfl rfl
    omega
  have hs8 : s < 8 := by omega
  have heq2 : ∀ i, i < n → hd (150 * s + i) = yk (160 * s + i) := fun i hi => by
    have := heq i hi
    rw [rn_sl_at (by omega), rn_sl_at (by omega)] at this
    exact this
  have x150 : x * 150 = nI (150 * s) := by
    subst hx
    have := vx_150 hv 0
    rw [nI_0, Int32.add_zero, Nat.add_zero] at this
    exact this
  rcases sr_least (fun i => hd (150 * s + i)) y n with hno | ⟨i0, hi0, hyes, hno⟩
  · refine ⟨1, (nI L, pn, wp, nI m, nI S, se, fl, nI q, 0, nI (s + 1), 1, y, rs, sn, it, le, pe, op, kd, nu, co, cl, ap, rd, si, bg, ct, ls, upd hd (150 * s + n) y, upd hk (150 * s + n) 0, upd hc s (nI (n + 1)), vl), (nI L, nI m, nI S, wy, nI q, ya, se, fl, y, vt, ot, ra, br, oc, it, le, tk, cn, kd, nu, lf, la, pc, yb, upd yh (160 * s + n) y, upd yk (160 * s + n) y, upd ho s (nI (n + 1)), ap, rd, si, vs, os), fun post hp => ?_, fun post hp => ?_, md_give y hkd hS hs h (k := 8) (r1 := r s) ⟨fun t ht => by simp [pk_un ht], fun i hi => ⟨pk_un (by omega), pk_un (by omega)⟩, fun i hi => ⟨pk_un (by omega), pk_un (by omega)⟩⟩ (Or.inr rfl) (Or.inr ⟨rfl, Nat.le_refl _⟩) (Nat.le_refl _) h.1 hkc (fun P' hP => ?_)⟩
    · have key : ∀ (d i nf : Nat), i + d = n → d < nf → wX_giveIfNew_19 post x y (nI (150 * s + n)) (nI L) pn wp (nI m) (nI S) se fl (nI q) 0 (nI s) 1 y rs sn it le pe op kd nu co cl ap rd si bg ct ls hd hk hc vl nf (nI (150 * s + i)) := by
        intro d
        induction d with
        | zero =>
          intro i nf hi hf
          obtain ⟨f, rfl⟩ : ∃ f, nf = f + 1 := ⟨nf - 1, by omega⟩
          refine br_t (by rw [nI_leI (by omega) (by omega)]; omega) (xr_hold hv hx hn hhc 0 ?_)
          exact xr_give hp
        | succ d IH =>
          intro i nf hi hf
          obtain ⟨f, rfl⟩ : ∃ f, nf = f + 1 := ⟨nf - 1, by omega⟩
          exact br_f (nI_ge (by omega) (by omega)) ⟨vp_in_nI (by omega) (by omega), br_f (by rw [nI_clamp (by omega)]; exact hno i (by omega)) (nm_r (nI_1 _) (IH (i + 1) f (by omega) (by omega)))⟩
      have hG : wpX_giveIfNew post (nI L, pn, wp, nI m, nI S, se, fl, nI q, 0, nI s, 1, y, rs, sn, it, le, pe, op, kd, nu, co, cl, ap, rd, si, bg, ct, ls, hd, hk, hc, vl) x y := by
        subst hx
        exact nm_r x150 ⟨hv, nm_r (e' := nI (150 * x.toNatClampNeg + n)) (by rw [hhc, nI_add]) ⟨_, key n 0 _ (by omega) (Nat.lt_succ_self _)⟩⟩
      subst hx
      exact ⟨hv, nm_r hk0 (br_f (by decide) (br_f (by decide) (br_f (by decide) (br_f (by decide) (br_f (by decide) (br_f (by decide) (br_f (by decide) (br_f (by decide) (br_f (by decide) (br_f (by decide) (br_t rfl (hG))))))))))))⟩
    · have hG : ∀ post : Int32 → SY → Prop, post 0 (nI L, nI m, nI S, wy, nI q, ya, se, fl, y, vt, ot, ra, br, oc, it, le, tk, cn, kd, nu, lf, la, pc, yb, upd yh (160 * s + n) y, upd yk (160 * s + n) y, upd ho s (nI (n + 1)), ap, rd, si, vs, os) → wpY_known post (nI L, nI m, nI S, wy, nI q, ya, se, fl, y, vt, ot, ra, br, oc, it, le, tk, cn, kd, nu, lf, la, pc, yb, yh, yk, ho, ap, rd, si, vs, os) x y := fun post hp => by
        unfold wpY_known
        refine yr_find0 hv hx (by omega) hho (fun i hi => by rw [← heq2 i hi]; exact hno i hi) ?_
        exact br_t (by decide) (yr_hold hv hx hn hho y hp)
      subst hx
      exact ⟨hv, nm_r hk0 (br_f (by decide) (br_f (by decide) (br_f (by decide) (br_f (by decide) (br_f (by decide) (br_f (by decide) (br_f (by decide) (br_f (by decide) (br_f (by decide) (br_f (by decide) (br_t rfl (hG _ (br_t rfl hp)))))))))))))⟩
    · refine ⟨n + 1, by omega, pk_us, pk_us, fun i hi => ?_⟩
      rw [rn_sl_at (by omega), rn_sl_at (by omega)]
      by_cases ei : i = n
      · subst ei; rw [pk_us, pk_us]
      · rw [pk_un (by omega), pk_un (by omega)]; exact heq2 i (by omega)
  · refine ⟨2, (nI L, pn, wp, nI m, nI S, se, fl, nI q, 0, rn_aI s, 0, y, rs, sn, it, le, pe, op, kd, nu, co, cl, ap, rd, si, bg, ct, ls, hd, hk, hc, vl), (nI L, nI m, nI S, wy, nI q, ya, se, fl, y, vt, ot, ra, br, oc, it, le, tk, cn, kd, nu, lf, la, pc, yb, yh, yk, ho, ap, rd, si, vs, os), fun post hp => ?_, fun post hp => ?_, md_ask hkd hS hs h (k := 8) (r1 := r s) fr_id (Or.inr rfl) (Or.inl (Nat.le_refl _)) (fun z => absurd z (by simp [rn_cl])) (Nat.le_refl _) h.1 hkc (fun P' hP => dd_mono (k := 8) (by omega) (Nat.le_of_lt hP) (dd_get h hs hk0 (by omega)))⟩
    · have key : ∀ (d i nf : Nat), i + d = i0 → d < nf → wX_giveIfNew_19 post x y (nI (150 * s + n)) (nI L) pn wp (nI m) (nI S) se fl (nI q) 0 (nI s) 1 y rs sn it le pe op kd nu co cl ap rd si bg ct ls hd hk hc vl nf (nI (150 * s + i)) := by
        intro d
        induction d with
        | zero =>
          intro i nf hi hf
          obtain ⟨f, rfl⟩ : ∃ f, nf = f + 1 := ⟨nf - 1, by omega⟩
          have : i = i0 := by omega
          subst this
          exact br_f (nI_ge (by omega) (by omega)) ⟨vp_in_nI (by omega) (by omega), br_t (by rw [nI_clamp (by omega)]; exact hyes) (xr_ask hp)⟩
        | succ d IH =>
          intro i nf hi hf
          obtain ⟨f, rfl⟩ : ∃ f, nf = f + 1 := ⟨nf - 1, by omega⟩
          exact br_f (nI_ge (by omega) (by omega)) ⟨vp_in_nI (by omega) (by omega), br_f (by rw [nI_clamp (by omega)]; exact hno i (by omega)) (nm_r (nI_1 _) (IH (i + 1) f (by omega) (by omega)))⟩
      have hG : wpX_giveIfNew post (nI L, pn, wp, nI m, nI S, se, fl, nI q, 0, nI s, 1, y, rs, sn, it, le, pe, op, kd, nu, co, cl, ap, rd, si, bg, ct, ls, hd, hk, hc, vl) x y := by
        subst hx
        exact nm_r x150 ⟨hv, nm_r (e' := nI (150 * x.toNatClampNeg + n)) (by rw [hhc, nI_add]) ⟨_, key i0 0 _ (by omega) (Nat.lt_succ_self _)⟩⟩
      subst hx
      exact ⟨hv, nm_r hk0 (br_f (by decide) (br_f (by decide) (br_f (by decide) (br_f (by decide) (br_f (by decide) (br_f (by decide) (br_f (by decide) (br_f (by decide) (br_f (by decide) (br_f (by decide) (br_t rfl (hG))))))))))))⟩
    · have hG : ∀ post : Int32 → SY → Prop, post 1 (nI L, nI m, nI S, wy, nI q, ya, se, fl, y, vt, ot, ra, br, oc, it, le, tk, cn, kd, nu, lf, la, pc, yb, yh, yk, ho, ap, rd, si, vs, os) → wpY_known post (nI L, nI m, nI S, wy, nI q, ya, se, fl, y, vt, ot, ra, br, oc, it, le, tk, cn, kd, nu, lf, la, pc, yb, yh, yk, ho, ap, rd, si, vs, os) x y := fun post hp => by
        unfold wpY_known
        refine yr_find1 hv hx (by omega) hho hi0 (by rw [← heq2 i0 hi0]; exact hyes) (fun i hi => by rw [← heq2 i (by omega)]; exact hno i hi) ?_
        exact br_f (nI_pos (by omega)) hp
      subst hx
      exact ⟨hv, nm_r hk0 (br_f (by decide) (br_f (by decide) (br_f (by decide) (br_f (by decide) (br_f (by decide) (br_f (by decide) (br_f (by decide) (br_f (by decide) (br_f (by decide) (br_f (by decide) (br_t rfl (hG _ (br_f (by decide) hp)))))))))))))⟩
theorem cm_15 (hkd : ∀ t, t < S → (kd t).toNatClampNeg ≤ 16) (hS : S ≤ 8) (hL : L ≤ 150) (hs : s < S) (hv : vp_in x 8) (hx : x.toNatClampNeg = s) (h : dd_D S L m le kd nu g e r b 1 (s + 1) q sn ya bg ct ls hd hk hc lf la pc yb yh yk ho) (hk0 : kd s = nI 15) : ∃ (act : Int32) (u1 : SX) (v1 : SY), (∀ post : SX → Prop, post u1 → wpX_elementCame post (nI L, pn, wp, nI m, nI S, se, fl, nI q, 0, nI s, 1, y, rs, sn, it, le, pe, op, kd, nu, co, cl, ap, rd, si, bg, ct, ls, hd, hk, hc, vl) x y) ∧ (∀ post : Int32 → SY → Prop, post act v1 → wpY_came post (nI L, nI m, nI S, wy, nI q, ya, se, fl, y, vt, ot, ra, br, oc, it, le, tk, cn, kd, nu, lf, la, pc, yb, yh, yk, ho, ap, rd, si, vs, os) x) ∧ rr_N pn wp se wy ra it le pe op kd nu co cl si tk cn L S m (rn_P S g b 1 (s + 1)) (s + 1) act u1 v1 := by
  have hkc : (kd s).toNatClampNeg = 15 := by rw [hk0]; exact nI_clamp (by omega)
  have hk15 : kd s = 15 := hk0
  obtain ⟨hbb, j, hj, hhc, hho, hj0, _, heq⟩ := dd_get h hs hk0 (by omega)
  have hb0 : b s = 0 := h.2.2.2.2.2.2.1 s hs (Or.inr ⟨rfl, by decide⟩) (by rw [hkc]; simp [rn_cl])
  have := hj0 hb0
  subst this
  have hn : r s < 150 := by
    have a := h.1
    have c := h.2.2.2.1 (s + 1) (by omega)
    have d := h.2.2.2.2.2.1 s hs rfl rfl
    omega
  have hs8 : s < 8 := by omega
  rw [Nat.add_zero] at hhc hho heq
  refine ⟨2, (nI L, pn, wp, nI m, nI S, se, fl, nI q, 0, rn_aI s, 0, y, rs, sn, it, le, pe, op, kd, nu, co, cl, ap, rd, si, bg, ct, ls, upd hd (150 * s + r s) y, upd hk (150 * s + r s) 0, upd hc s (nI (r s + 1)), vl), (nI L, nI m, nI S, wy, nI q, ya, se, fl, y, vt, ot, ra, br, oc, it, le, tk, cn, kd, nu, lf, la, pc, yb, upd yh (160 * s + r s) y, upd yk (160 * s + r s) 0, upd ho s (nI (r s + 1)), ap, rd, si, vs, os), fun post hp => ?_, fun post hp => ?_, md_ask hkd hS hs h (k := 15) (r1 := r s + 1) ⟨fun t ht => by simp [pk_un ht], fun i hi => ⟨pk_un (by omega), pk_un (by omega)⟩, fun i hi => ⟨pk_un (by omega), pk_un (by omega)⟩⟩ (Or.inr rfl) (Or.inr ⟨rfl, Nat.le_refl _⟩) (fun _ => hb0) (Nat.le_refl _) h.1 hkc (fun P' hP => ?_)⟩
  · have hG : ∀ post : SX → Prop, post (nI L, pn, wp, nI m, nI S, se, fl, nI q, 0, rn_aI s, 0, y, rs, sn, it, le, pe, op, kd, nu, co, cl, ap, rd, si, bg, ct, ls, upd hd (150 * s + r s) y, upd hk (150 * s + r s) 0, upd hc s (nI (r s + 1)), vl) → wpX_gather post (nI L, pn, wp, nI m, nI S, se, fl, nI q, 0, nI s, 1, y, rs, sn, it, le, pe, op, kd, nu, co, cl, ap, rd, si, bg, ct, ls, hd, hk, hc, vl) x y := fun post hp => by
      refine ⟨hv, br_t (by rw [hx]; exact hk15) (xr_hold hv hx hn hhc 0 ?_)⟩
      exact xr_ask hp
    subst hx
    exact ⟨hv, nm_r hk0 (br_f (by decide) (br_f (by decide) (br_f (by decide) (br_f (by decide) (br_f (by decide) (br_f (by decide) (br_f (by decide) (br_f (by decide) (br_f (by decide) (br_f (by decide) (br_f (by decide) (br_f (by decide) (br_f (by decide) (br_f (by decide) (br_f (by decide) (br_f (by decide) (br_f (by decide) (br_t rfl (hG _ hp)))))))))))))))))))⟩
  · have hG := fun (post : SY → Prop) hp => yr_hold (wy := wy) (ya := ya) (se := se) (fl := fl) (vt := vt) (ot := ot) (ra := ra) (br := br) (oc := oc) (it := it) (le := le) (tk := tk) (cn := cn) (kd := kd) (nu := nu) (lf := lf) (la := la) (pc := pc) (yb := yb) (yh := yh) (yk := yk) (ho := ho) (ap := ap) (rd := rd) (si := si) (vs := vs) (os := os) (lm := nI L) (sr := nI m) (sc := nI S) (sp := nI q) (vv := y) (post := post) (y := y) hv hx hn hho 0 hp
    subst hx
    exact ⟨hv, nm_r hk0 (br_f (by decide) (br_t (by decide) (⟨hv, nm_r hk0 (br_f (by decide) (br_f (by decide) (br_f (by decide) (br_f (by decide) (br_f (by decide) (br_t rfl (hG _ hp)))))))⟩)))⟩
  · refine ⟨hbb, 0, by omega, pk_us, pk_us, fun _ => rfl, fun z => absurd z (by omega), fun i hi => ?_⟩
    rw [rn_sl_at (by omega), rn_sl_at (by omega)]
    by_cases ei : i = r s
    · subst ei; rw [pk_us, pk_us]
    · rw [pk_un (by omega), pk_un (by omega)]
      have := heq i (by omega)
      rw [rn_sl_at (by omega), rn_sl_at (by omega)] at this
      exact this
end
