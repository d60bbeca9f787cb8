section
variable {lm pn wp sr sc se fl sp pt sg el rs sn wy ya vv vt ot ra br : Int32} {en oc : Int64} {it le pe op kd nu co cl ap rd si bg ct ls hd hk hc vl tk cn lf la pc yb yh yk ho vs os : Nat → Int32}
variable {bg' ct' ls' hd' hk' hc' lf' la' pc' yb' yh' yk' ho' : Nat → Int32} {S L m q s sgn k : Nat} {g e r b : Nat → Nat} {x y : Int32}
theorem cm_0 (hkd : ∀ t, t < S → (kd t).toNatClampNeg ≤ 16) (hS : S ≤ 8) (hL : L ≤ 150) (hs : s < S) (hv : vp_in x 8) (hx : x.toNatClampNeg = s) (h : dd_D S L m le kd nu g e r b 1 (s + 1) q sn ya bg ct ls hd hk hc lf la pc yb yh yk ho) (hk0 : kd s = nI 0) (hE : rl_Ex co cl tk cn s) : ∃ (act : Int32) (u1 : SX) (v1 : SY), (∀ post : SX → Prop, post u1 → wpX_elementCame post (nI L, pn, wp, nI m, nI S, se, fl, nI q, 0, nI s, 1, y, rs, sn, it, le, pe, op, kd, nu, co, cl, ap, rd, si, bg, ct, ls, hd, hk, hc, vl) x y) ∧ (∀ post : Int32 → SY → Prop, post act v1 → wpY_came post (nI L, nI m, nI S, wy, nI q, ya, se, fl, y, vt, ot, ra, br, oc, it, le, tk, cn, kd, nu, lf, la, pc, yb, yh, yk, ho, ap, rd, si, vs, os) x) ∧ rr_N pn wp se wy ra it le pe op kd nu co cl si tk cn L S m (rn_P S g b 1 (s + 1)) (s + 1) act u1 v1 := by
  have hkc : (kd s).toNatClampNeg = 0 := by rw [hk0]; exact nI_clamp (by omega)
  have hk5 : ¬ kd s = 5 := by rw [hk0]; decide
  have hk1 : ¬ kd s = 1 := by rw [hk0]; decide
  rcases rn_apx (pn := pn) (wp := wp) (se := se) (fl := fl) (rs := rs) (sn := sn) (it := it) (le := le) (pe := pe) (op := op) (kd := kd) (nu := nu) (co := co) (cl := cl) (ap := ap) (rd := rd) (si := si) (bg := bg) (ct := ct) (ls := ls) (hd := hd) (hk := hk) (hc := hc) (vl := vl) (wy := wy) (ya := ya) (vt := vt) (ot := ot) (ra := ra) (br := br) (oc := oc) (tk := tk) (cn := cn) (lf := lf) (la := la) (pc := pc) (yb := yb) (yh := yh) (yk := yk) (ho := ho) (vs := vs) (os := os) (sr := nI m) (sc := nI S) (en := 0) (pt := nI s) (sg := 1) (el := y) (vv := y) hL h.1 hv hx hE y 0 with ⟨oe, p', fl', vv', vt', ot', br', ap', vl', vs', os', w1, w2, w3⟩ | ⟨hq, v, vt', ot', br', vl', vs', os', w2, w3⟩
  · refine ⟨3, (nI L, pn, wp, nI m, nI S, se, fl', nI p', oe, nI s, 1, y, rs, sn, it, le, pe, op, kd, nu, co, cl, ap', rd, si, bg, ct, ls, hd, hk, hc, vl'), (nI L, nI m, nI S, wy, nI p', ya, se, fl', vv', vt', ot', ra, br', oe, it, le, tk, cn, kd, nu, lf, la, pc, yb, yh, yk, ho, ap', rd, si, vs', os'), fun post hp => ?_, fun post hp => ?_, md_out w1⟩
    · have hA : ∀ post : SX → Prop, post (nI L, pn, wp, nI m, nI S, se, fl', nI p', oe, nI s, 1, y, rs, sn, it, le, pe, op, kd, nu, co, cl, ap', rd, si, bg, ct, ls, hd, hk, hc, vl') → wpX_applyTo post (nI L, pn, wp, nI m, nI S, se, fl, nI q, 0, nI s, 1, y, rs, sn, it, le, pe, op, kd, nu, co, cl, ap, rd, si, bg, ct, ls, hd, hk, hc, vl) x y := fun post hp => by
        unfold wpX_applyTo; exact w2 _ (br_t rfl hp)
      subst hx
      exact ⟨hv, nm_r hk0 (br_f (by decide) (br_f (by decide) (br_t rfl (hA _ hp))))⟩
    · subst hx
      exact ⟨hv, nm_r hk0 (br_f (by decide) (br_f (by decide) (br_t rfl (⟨hv, br_f hk5 (w3 _ (br_t rfl hp))⟩))))⟩
  · by_cases hz : v = 0
    · refine ⟨2, (nI L, pn, wp, nI m, nI S, se, fl, nI (q + 1), 0, rn_aI s, 0, y, v, sn, it, le, pe, op, kd, nu, co, cl, upd ap s (ap s + 1), rd, si, bg, ct, ls, hd, hk, hc, vl'), (nI L, nI m, nI S, wy, nI (q + 1), ya, se, fl, y, vt', ot', ra, br', oc, it, le, tk, cn, kd, nu, lf, la, pc, upd yb s (vp_nar .boolean 1), yh, yk, ho, upd ap s (ap s + 1), rd, si, vs', os'), fun post hp => ?_, fun post hp => ?_, md_ask hkd hS hs h (k := 0) (r1 := r s) ⟨fun t ht => by simp [pk_un ht], fun i hi => ⟨rfl, rfl⟩, fun i hi => ⟨rfl, rfl⟩⟩ (Or.inr rfl) (Or.inl (Nat.le_refl _)) (fun z => absurd z (by simp [rn_cl])) (by omega) (by omega) hkc (fun P' hP => trivial)⟩
      · have hA : ∀ post : SX → Prop, post (nI L, pn, wp, nI m, nI S, se, fl, nI (q + 1), 0, rn_aI s, 0, y, v, sn, it, le, pe, op, kd, nu, co, cl, upd ap s (ap s + 1), rd, si, bg, ct, ls, hd, hk, hc, vl') → wpX_applyTo post (nI L, pn, wp, nI m, nI S, se, fl, nI q, 0, nI s, 1, y, rs, sn, it, le, pe, op, kd, nu, co, cl, ap, rd, si, bg, ct, ls, hd, hk, hc, vl) x y := fun post hp => by
          subst hx
          unfold wpX_applyTo; exact w2 _ (br_f (by decide) ⟨hv, br_f hk1 (br_t hz ⟨hv, br_t hk0 (xr_ask hp)⟩)⟩)
        subst hx
        exact ⟨hv, nm_r hk0 (br_f (by decide) (br_f (by decide) (br_t rfl (hA _ hp))))⟩
      · subst hx
        exact ⟨hv, nm_r hk0 (br_f (by decide) (br_f (by decide) (br_t rfl (⟨hv, br_f hk5 (w3 _ (br_f (by decide) (br_t hz (br_t rfl ⟨hv, nm_e ⟨hv, br_f hk5 (br_t rfl ⟨hv, br_t hk0 hp⟩)⟩⟩))))⟩))))⟩
    · refine ⟨1, (nI L, pn, wp, nI m, nI S, se, fl, nI (q + 1), 0, nI (s + 1), 1, y, v, sn, it, le, pe, op, kd, nu, co, cl, upd ap s (ap s + 1), rd, si, bg, ct, ls, hd, hk, hc, vl'), (nI L, nI m, nI S, wy, nI (q + 1), ya, se, fl, y, vt', ot', ra, br', oc, it, le, tk, cn, kd, nu, lf, la, pc, upd yb s (vp_nar .boolean 0), yh, yk, ho, upd ap s (ap s + 1), rd, si, vs', os'), fun post hp => ?_, fun post hp => ?_, md_give y hkd hS hs h (k := 0) (r1 := r s) ⟨fun t ht => by simp [pk_un ht], fun i hi => ⟨rfl, rfl⟩, fun i hi => ⟨rfl, rfl⟩⟩ (Or.inr rfl) (Or.inr ⟨rfl, Nat.le_refl _⟩) (by omega) (by omega) hkc (fun P' hP => trivial)⟩
      · have hA : ∀ post : SX → Prop, post (nI L, pn, wp, nI m, nI S, se, fl, nI (q + 1), 0, nI (s + 1), 1, y, v, sn, it, le, pe, op, kd, nu, co, cl, upd ap s (ap s + 1), rd, si, bg, ct, ls, hd, hk, hc, vl') → wpX_applyTo post (nI L, pn, wp, nI m, nI S, se, fl, nI q, 0, nI s, 1, y, rs, sn, it, le, pe, op, kd, nu, co, cl, ap, rd, si, bg, ct, ls, hd, hk, hc, vl) x y := fun post hp => by
          subst hx
          unfold wpX_applyTo; exact w2 _ (br_f (by decide) ⟨hv, br_f hk1 (br_f hz (xr_give hp))⟩)
        subst hx
        exact ⟨hv, nm_r hk0 (br_f (by decide) (br_f (by decide) (br_t rfl (hA _ hp))))⟩
      · subst hx
        exact ⟨hv, nm_r hk0 (br_f (by decide) (br_f (by decide) (br_t rfl (⟨hv, br_f hk5 (w3 _ (br_f (by decide) (br_f hz (br_f (by decide) ⟨hv, nm_e ⟨hv, br_f hk5 (br_f (by decide) hp)⟩⟩))))⟩))))⟩
theorem cm_4 (hkd : ∀ t, t < S → (kd t).toNatClampNeg ≤ 16) (hS : S ≤ 8) (hL : L ≤ 150) (hs : s < S) (hv : vp_in x 8) (hx : x.toNatClampNeg = s) (h : dd_D S L m le kd nu g e r b 1 (s + 1) q sn ya bg ct ls hd hk hc lf la pc yb yh yk ho) (hk0 : kd s = nI 4) (hE : rl_Ex co cl tk cn s) : ∃ (act : Int32) (u1 : SX) (v1 : SY), (∀ post : SX → Prop, post u1 → wpX_elementCame post (nI L, pn, wp, nI m, nI S, se, fl, nI q, 0, nI s, 1, y, rs, sn, it, le, pe, op, kd, nu, co, cl, ap, rd, si, bg, ct, ls, hd, hk, hc, vl) x y) ∧ (∀ post : Int32 → SY → Prop, post act v1 → wpY_came post (nI L, nI m, nI S, wy, nI q, ya, se, fl, y, vt, ot, ra, br, oc, it, le, tk, cn, kd, nu, lf, la, pc, yb, yh, yk, ho, ap, rd, si, vs, os) x) ∧ rr_N pn wp se wy ra it le pe op kd nu co cl si tk cn L S m (rn_P S g b 1 (s + 1)) (s + 1) act u1 v1 := by
  have hkc : (kd s).toNatClampNeg = 4 := by rw [hk0]; exact nI_clamp (by omega)
  have hk5 : ¬ kd s = 5 := by rw [hk0]; decide
  have hk1 : ¬ kd s = 1 := by rw [hk0]; decide
  have hkz : ¬ kd s = 0 := by rw [hk0]; decide
  rcases rn_apx (pn := pn) (wp := wp) (se := se) (fl := fl) (rs := rs) (sn := sn) (it := it) (le := le) (pe := pe) (op := op) (kd := kd) (nu := nu) (co := co) (cl := cl) (ap := ap) (rd := rd) (si := si) (bg := bg) (ct := ct) (ls := ls) (hd := hd) (hk := hk) (hc := hc) (vl := vl) (wy := wy) (ya := ya) (vt := vt) (ot := ot) (ra := ra) (br := br) (oc := oc) (tk := tk) (cn := cn) (lf := lf) (la := la) (pc := pc) (yb := yb) (yh := yh) (yk := yk) (ho := ho) (vs := vs) (os := os) (sr := nI m) (sc := nI S) (en := 0) (pt := nI s) (sg := 1) (el := y) (vv := y) hL h.1 hv hx hE y 0 with ⟨oe, p', fl', vv', vt', ot', br', ap', vl', vs', os', w1, w2, w3⟩ | ⟨hq, v, vt', ot', br', vl', vs', os', w2, w3⟩
  · refine ⟨3, (nI L, pn, wp, nI m, nI S, se, fl', nI p', oe, nI s, 1, y, rs, sn, it, le, pe, op, kd, nu, co, cl, ap', rd, si, bg, ct, ls, hd, hk, hc, vl'), (nI L, nI m, nI S, wy, nI p', ya, se, fl', vv', vt', ot', ra, br', oe, it, le, tk, cn, kd, nu, lf, la, pc, yb, yh, yk, ho, ap', rd, si, vs', os'), fun post hp => ?_, fun post hp => ?_, md_out w1⟩
    · have hA : ∀ post : SX → Prop, post (nI L, pn, wp, nI m, nI S, se, fl', nI p', oe, nI s, 1, y, rs, sn, it, le, pe, op, kd, nu, co, cl, ap', rd, si, bg, ct, ls, hd, hk, hc, vl') → wpX_applyTo post (nI L, pn, wp, nI m, nI S, se, fl, nI q, 0, nI s, 1, y, rs, sn, it, le, pe, op, kd, nu, co, cl, ap, rd, si, bg, ct, ls, hd, hk, hc, vl) x y := fun post hp => by
        unfold wpX_applyTo; exact w2 _ (br_t rfl hp)
      subst hx
      exact ⟨hv, nm_r hk0 (br_f (by decide) (br_f (by decide) (br_f (by decide) (br_f (by decide) (br_f (by decide) (br_f (by decide) (br_t rfl (hA _ hp))))))))⟩
    · subst hx
      exact ⟨hv, nm_r hk0 (br_f (by decide) (br_f (by decide) (br_f (by decide) (br_f (by decide) (br_f (by decide) (br_f (by decide) (br_t rfl (⟨hv, br_f hk5 (w3 _ (br_t rfl hp))⟩))))))))⟩
  · by_cases hz : v = 0
    · refine ⟨0, (nI L, pn, wp, nI m, nI S, se, fl, nI (q + 1), 0, nI (s + 1), 2, y, v, sn, it, le, pe, op, kd, nu, co, cl, upd ap s (ap s + 1), rd, si, bg, ct, ls, hd, hk, hc, vl'), (nI L, nI m, nI S, wy, nI (q + 1), ya, se, fl, y, vt', ot', ra, br', oc, it, le, tk, cn, kd, nu, lf, la, pc, upd yb s (vp_nar .boolean 1), yh, yk, ho, upd ap s (ap s + 1), rd, si, vs', os'), fun post hp => ?_, fun post hp => ?_, md_end hkd hS hs h (k := 4) ⟨fun t ht => by simp [pk_un ht], fun i hi => ⟨rfl, rfl⟩, fun i hi => ⟨rfl, rfl⟩⟩ (Or.inr (Or.inl rfl)) (by omega) (by omega) hkc (fun P' hP => trivial)⟩
      · have hA : ∀ post : SX → Prop, post (nI L, pn, wp, nI m, nI S, se, fl, nI (q + 1), 0, nI (s + 1), 2, y, v, sn, it, le, pe, op, kd, nu, co, cl, upd ap s (ap s + 1), rd, si, bg, ct, ls, hd, hk, hc, vl') → wpX_applyTo post (nI L, pn, wp, nI m, nI S, se, fl, nI q, 0, nI s, 1, y, rs, sn, it, le, pe, op, kd, nu, co, cl, ap, rd, si, bg, ct, ls, hd, hk, hc, vl) x y := fun post hp => by
          subst hx
          unfold wpX_applyTo; exact w2 _ (br_f (by decide) ⟨hv, br_f hk1 (br_t hz ⟨hv, br_f hkz (xr_end hp)⟩)⟩)
        subst hx
        exact ⟨hv, nm_r hk0 (br_f (by decide) (br_f (by decide) (br_f (by decide) (br_f (by decide) (br_f (by decide) (br_f (by decide) (br_t rfl (hA _ hp))))))))⟩
      · subst hx
        exact ⟨hv, nm_r hk0 (br_f (by decide) (br_f (by decide) (br_f (by decide) (br_f (by decide) (br_f (by decide) (br_f (by decide) (br_t rfl (⟨hv, br_f hk5 (w3 _ (br_f (by decide) (br_t hz (br_t rfl ⟨hv, nm_e ⟨hv, br_f hk5 (br_t rfl ⟨hv, br_f hkz hp⟩)⟩⟩))))⟩))))))))⟩
    · refine ⟨1, (nI L, pn, wp, nI m, nI S, se, fl, nI (q + 1), 0, nI (s + 1), 1, y, v, sn, it, le, pe, op, kd, nu, co, cl, upd ap s (ap s + 1), rd, si, bg, ct, ls, hd, hk, hc, vl'), (nI L, nI m, nI S, wy, nI (q + 1), ya, se, fl, y, vt', ot', ra, br', oc, it, le, tk, cn, kd, nu, lf, la, pc, upd yb s (vp_nar .boolean 0), yh, yk, ho, upd ap s (ap s + 1), rd, si, vs', os'), fun post hp => ?_, fun post hp => ?_, md_give y hkd hS hs h (k := 4) (r1 := r s) ⟨fun t ht => by simp [pk_un ht], fun i hi => ⟨rfl, rfl⟩, fun i hi => ⟨rfl, rfl⟩⟩ (Or.inr rfl) (Or.inr ⟨rfl, Nat.le_refl _⟩) (by omega) (by omega) hkc (fun P' hP => trivial)⟩
      · have hA : ∀ post : SX → Prop, post (nI L, pn, wp, nI m, nI S, se, fl, nI (q + 1), 0, nI (s + 1), 1, y, v, sn, it, le, pe, op, kd, nu, co, cl, upd ap s (ap s + 1), rd, si, bg, ct, ls, hd, hk, hc, vl') → wpX_applyTo post (nI L, pn, wp, nI m, nI S, se, fl, nI q, 0, nI s, 1, y, rs, sn, it, le, pe, op, kd, nu, co, cl, ap, rd, si, bg, ct, ls, hd, hk, hc, vl) x y := fun post hp => by
          subst hx
          unfold wpX_applyTo; exact w2 _ (br_f (by decide) ⟨hv, br_f hk1 (br_f hz (xr_give hp))⟩)
        subst hx
        exact ⟨hv, nm_r hk0 (br_f (by decide) (br_f (by decide) (br_f (by decide) (br_f (by decide) (br_f (by decide) (br_f (by decide) (br_t rfl (hA _ hp))))))))⟩
      · subst hx
        exact ⟨hv, nm_r hk0 (br_f (by decide) (br_f (by decide) (br_f (by decide) (br_f (by decide) (br_f (by decide) (br_f (by decide) (br_t rfl (⟨hv, br_f hk5 (w3 _ (br_f (by decide) (br_f hz (br_f (by decide) ⟨hv, nm_e ⟨hv, br_f hk5 (br_f (by decide) hp)⟩⟩))))⟩))))))))⟩
theorem cm_1 (hkd : ∀ t, t < S → (kd t).toNatClampNeg ≤ 16) (hS : S ≤ 8) (hL : L ≤ 150) (hs : s < S) (hv : vp_in x 8) (hx : x.toNatClampNeg = s) (h : dd_D S L m le kd nu g e r b 1 (s + 1) q sn ya bg ct ls hd hk hc lf la pc yb yh yk ho) (hk0 : kd s = nI 1) (hE : rl_Ex co cl tk cn s) : ∃ (act : Int32) (u1 : SX) (v1 : SY), (∀ post : SX → Prop, post u1 → wpX_elementCame post (nI L, pn, wp, nI m, nI S, se, fl, nI q, 0, nI s, 1, y, rs, sn, it, le, pe, op, kd, nu, co, cl, ap, rd, si, bg, ct, ls, hd, hk, hc, vl) x y) ∧ (∀ post : Int32 → SY → Prop, post act v1 → wpY_came post (nI L, nI m, nI S, wy, nI q, ya, se, fl, y, vt, ot, ra, br, oc, it, le, tk, cn, kd, nu, lf, la, pc, yb, yh, yk, ho, ap, rd, si, vs, os) x) ∧ rr_N pn wp se wy ra it le pe op kd nu co cl si tk cn L S m (rn_P S g b 1 (s + 1)) (s + 1) act u1 v1 := by
  have hkc : (kd s).toNatClampNeg = 1 := by rw [hk0]; exact nI_clamp (by omega)
  rcases rn_apx (pn := pn) (wp := wp) (se := se) (fl := fl) (rs := rs) (sn := sn) (it := it) (le := le) (pe := pe) (op := op) (kd := kd) (nu := nu) (co := co) (cl := cl) (ap := ap) (rd := rd) (si := si) (bg := bg) (ct := ct) (ls := ls) (hd := hd) (hk := hk) (hc := hc) (vl := vl) (wy := wy) (ya := ya) (vt := vt) (ot := ot) (ra := ra) (br := br) (oc := oc) (tk := tk) (cn := cn) (lf := lf) (la := la) (pc := pc) (yb := yb) (yh := yh) (yk := yk) (ho := ho) (vs := vs) (os := os) (sr := nI m) (sc := nI S) (en := 0) (pt := nI s) (sg := 1) (el := y) (vv := y) hL h.1 hv hx hE y 0 with ⟨oe, p', fl', vv', vt', ot', br', ap', vl', vs', os', w1, w2, w3⟩ | ⟨hq, v, vt', ot', br', vl', vs', os', w2, w3⟩
  · refine ⟨3, (nI L, pn, wp, nI m, nI S, se, fl', nI p', oe, nI s, 1, y, rs, sn, it, le, pe, op, kd, nu, co, cl, ap', rd, si, bg, ct, ls, hd, hk, hc, vl'), (nI L, nI m, nI S, wy, nI p', ya, se, fl', vv', vt', ot', ra, br', oe, it, le, tk, cn, kd, nu, lf, la, pc, yb, yh, yk, ho, ap', rd, si, vs', os'), fun post hp => ?_, fun post hp => ?_, md_out w1⟩
    · have hA : ∀ post : SX → Prop, post (nI L, pn, wp, nI m, nI S, se, fl', nI p', oe, nI s, 1, y, rs, sn, it, le, pe, op, kd, nu, co, cl, ap', rd, si, bg, ct, ls, hd, hk, hc, vl') → wpX_applyTo post (nI L, pn, wp, nI m, nI S, se, fl, nI q, 0, nI s, 1, y, rs, sn, it, le, pe, op, kd, nu, co, cl, ap, rd, si, bg, ct, ls, hd, hk, hc, vl) x y := fun post hp => by
        unfold wpX_applyTo; exact w2 _ (br_t rfl hp)
      subst hx
      exact ⟨hv, nm_r hk0 (br_f (by decide) (br_f (by decide) (br_f (by decide) (br_t rfl (hA _ hp)))))⟩
    · subst hx
      exact ⟨hv, nm_r hk0 (br_f (by decide) (br_f (by decide) (br_f (by decide) (br_t rfl (w3 _ (br_t rfl hp))))))⟩
  · refine ⟨1, (nI L, pn, wp, nI m, nI S, se, fl, nI (q + 1), 0, nI (s + 1), 1, v, v, sn, it, le, pe, op, kd, nu, co, cl, upd ap s (ap s + 1), rd, si, bg, ct, ls, hd, hk, hc, vl'), (nI L, nI m, nI S, wy, nI (q + 1), ya, se, fl, v, vt', ot', ra, br', oc, it, le, tk, cn, kd, nu, lf, la, pc, yb, yh, yk, ho, upd ap s (ap s + 1), rd, si, vs', os'), fun post hp => ?_, fun post hp => ?_, md_give v hkd hS hs h (k := 1) (r1 := r s) ⟨fun t ht => by simp [pk_un ht], fun i hi => ⟨rfl, rfl⟩, fun i hi => ⟨rfl, rfl⟩⟩ (Or.inr rfl) (Or.inr ⟨rfl, Nat.le_refl _⟩) (by omega) (by omega) hkc (fun P' hP => trivial)⟩
    · have hA : ∀ post : SX → Prop, post (nI L, pn, wp, nI m, nI S, se, fl, nI (q + 1), 0, nI (s + 1), 1, v, v, sn, it, le, pe, op, kd, nu, co, cl, upd ap s (ap s + 1), rd, si, bg, ct, ls, hd, hk, hc, vl') → wpX_applyTo post (nI L, pn, wp, nI m, nI S, se, fl, nI q, 0, nI s, 1, y, rs, sn, it, le, pe, op, kd, nu, co, cl, ap, rd, si, bg, ct, ls, hd, hk, hc, vl) x y := fun post hp => by
        subst hx
        unfold wpX_applyTo; exact w2 _ (br_f (by decide) ⟨hv, br_t hk0 (xr_give hp)⟩)
      subst hx
      exact ⟨hv, nm_r hk0 (br_f (by decide) (br_f (by decide) (br_f (by decide) (br_t rfl (hA _ hp)))))⟩
    · subst hx
      exact ⟨hv, nm_r hk0 (br_f (by decide) (br_f (by decide) (br_f (by decide) (br_t rfl (w3 _ (br_f (by decide) hp))))))⟩
theorem cm_5 (hkd : ∀ t, t < S → (kd t).toNatClampNeg ≤ 16) (hS : S ≤ 8) (hL : L ≤ 150) (hs : s < S) (hv : vp_in x 8) (hx : x.toNatClampNeg = s) (h : dd_D S L m le kd nu g e r b 1 (s + 1) q sn ya bg ct ls hd hk hc lf la pc yb yh yk ho) (hk0 : kd s = nI 5) (hE : rl_Ex co cl tk cn s) : ∃ (act : Int32) (u1 : SX) (v1 : SY), (∀ post : SX → Prop, post u1 → wpX_elementCame post (nI L, pn, wp, nI m, nI S, se, fl, nI q, 0, nI s, 1, y, rs, sn, it, le, pe, op, kd, nu, co, cl, ap, rd, si, bg, ct, ls, hd, hk, hc, vl) x y) ∧ (∀ post : Int32 → SY → Prop, post act v1 → wpY_came post (nI L, nI m, nI S, wy, nI q, ya, se, fl, y, vt, ot, ra, br, oc, it, le, tk, cn, kd, nu, lf, la, pc, yb, yh, yk, ho, ap, rd, si, vs, os) x) ∧ rr_N pn wp se wy ra it le pe op kd nu co cl si tk cn L S m (rn_P S g b 1 (s + 1)) (s + 1) act u1 v1 := by
  have hkc : (kd s).toNatClampNeg = 5 := by rw [hk0]; exact nI_clamp (by omega)
  have hk5 : kd s = 5 := hk0
  have hT : bg s = yb s := dd_get h hs hk0 (by omega)
  by_cases hb1 : bg s = 0
  · rcases rn_apx (pn := pn) (wp := wp) (se := se) (fl := fl) (rs := rs) (sn := sn) (it := it) (le := le) (pe := pe) (op := op) (kd := kd) (nu := nu) (co := co) (cl := cl) (ap := ap) (rd := rd) (si := si) (bg := bg) (ct := ct) (ls := ls) (hd := hd) (hk := hk) (hc := hc) (vl := vl) (wy := wy) (ya := ya) (vt := vt) (ot := ot) (ra := ra) (br := br) (oc := oc) (tk := tk) (cn := cn) (lf := lf) (la := la) (pc := pc) (yb := yb) (yh := yh) (yk := yk) (ho := ho) (vs := vs) (os := os) (sr := nI m) (sc := nI S) (en := 0) (pt := nI s) (sg := 1) (el := y) (vv := y) hL h.1 hv hx hE y 0 with ⟨oe, p', fl', vv', vt', ot', br', ap', vl', vs', os', w1, w2, w3⟩ | ⟨hq, v, vt', ot', br', vl', vs', os', w2, w3⟩
    · refine ⟨3, (nI L, pn, wp, nI m, nI S, se, fl', nI p', oe, nI s, 1, y, rs, sn, it, le, pe, op, kd, nu, co, cl, ap', rd, si, bg, ct, ls, hd, hk, hc, vl'), (nI L, nI m, nI S, wy, nI p', ya, se, fl', vv', vt', ot', ra, br', oe, it, le, tk, cn, kd, nu, lf, la, pc, yb, yh, yk, ho, ap', rd, si, vs', os'), fun post hp => ?_, fun post hp => ?_, md_out w1⟩
      · subst hx
        exact ⟨hv, nm_r hk0 (br_f (by decide) (br_f (by decide) (br_f (by decide) (br_f (by decide) (br_f (by decide) (br_f (by decide) (br_f (by decide) (br_t rfl (⟨hv, br_t hb1 (w2 _ (br_t rfl hp))⟩)))))))))⟩
      · subst hx
        exact ⟨hv, nm_r hk0 (br_f (by decide) (br_f (by decide) (br_f (by decide) (br_f (by decide) (br_f (by decide) (br_f (by decide) (br_f (by decide) (br_t rfl (⟨hv, br_t hk5 ⟨hv, br_t (by rw [← hT]; exact hb1) (w3 _ (br_t rfl hp))⟩⟩)))))))))⟩
    · by_cases hz : v = 0
      · refine ⟨1, (nI L, pn, wp, nI m, nI S, se, fl, nI (q + 1), 0, nI (s + 1), 1, y, v, sn, it, le, pe, op, kd, nu, co, cl, upd ap s (ap s + 1), rd, si, upd bg s (vp_nar .boolean 1), ct, ls, hd, hk, hc, vl'), (nI L, nI m, nI S, wy, nI (q + 1), ya, se, fl, y, vt', ot', ra, br', oc, it, le, tk, cn, kd, nu, lf, la, pc, upd yb s (vp_nar .boolean 1), yh, yk, ho, upd ap s (ap s + 1), rd, si, vs', os'), fun post hp => ?_, fun post hp => ?_, md_give y hkd hS hs h (k := 5) (r1 := r s) ⟨fun t ht => by simp [pk_un ht], fun i hi => ⟨rfl, rfl⟩, fun i hi => ⟨rfl, rfl⟩⟩ (Or.inr rfl) (Or.inr ⟨rfl, Nat.le_refl _⟩) (by omega) (by omega) hkc (fun P' hP => ?_)⟩
        · subst hx
          exact ⟨hv, nm_r hk0 (br_f (by decide) (br_f (by decide) (br_f (by decide) (br_f (by decide) (br_f (by decide) (br_f (by decide) (br_f (by decide) (br_t rfl (⟨hv, br_t hb1 (w2 _ (br_f (by decide) (br_t hz ⟨hv, nm_e (xr_give hp)⟩)))⟩)))))))))⟩
        · subst hx
          exact ⟨hv, nm_r hk0 (br_f (by decide) (br_f (by decide) (br_f (by decide) (br_f (by decide) (br_f (by decide) (br_f (by decide) (br_f (by decide) (br_t rfl (⟨hv, br_t hk5 ⟨hv, br_t (by rw [← hT]; exact hb1) (w3 _ (br_f (by decide) (br_t hz (br_t rfl ⟨hv, nm_e ⟨hv, br_t hk5 (br_t rfl hp)⟩⟩))))⟩⟩)))))))))⟩
        · show upd bg s _ s = upd yb s _ s
          rw [pk_us, pk_us]
      · refine ⟨2, (nI L, pn, wp, nI m, nI S, se, fl, nI (q + 1), 0, rn_aI s, 0, y, v, sn, it, le, pe, op, kd, nu, co, cl, upd ap s (ap s + 1), rd, si, bg, ct, ls, hd, hk, hc, vl'), (nI L, nI m, nI S, wy, nI (q + 1), ya, se, fl, y, vt', ot', ra, br', oc, it, le, tk, cn, kd, nu, lf, la, pc, upd yb s (vp_nar .boolean 0), yh, yk, ho, upd ap s (ap s + 1), rd, si, vs', os'), fun post hp => ?_, fun post hp => ?_, md_ask hkd hS hs h (k := 5) (r1 := r s) ⟨fun t ht => by simp [pk_un ht], fun i hi => ⟨rfl, rfl⟩, fun i hi => ⟨rfl, rfl⟩⟩ (Or.inr rfl) (Or.inl (Nat.le_refl _)) (fun z => absurd z (by simp [rn_cl])) (by omega) (by omega) hkc (fun P' hP => ?_)⟩
        · subst hx
          exact ⟨hv, nm_r hk0 (br_f (by decide) (br_f (by decide) (br_f (by decide) (br_f (by decide) (br_f (by decide) (br_f (by decide) (br_f (by decide) (br_t rfl (⟨hv, br_t hb1 (w2 _ (br_f (by decide) (br_f hz (xr_ask hp))))⟩)))))))))⟩
        · subst hx
          exact ⟨hv, nm_r hk0 (br_f (by decide) (br_f (by decide) (br_f (by decide) (br_f (by decide) (br_f (by decide) (br_f (by decide) (br_f (by decide) (br_t rfl (⟨hv, br_t hk5 ⟨hv, br_t (by rw [← hT]; exact hb1) (w3 _ (br_f (by decide) (br_f hz (br_f (by decide) ⟨hv, nm_e ⟨hv, br_t hk5 (br_f (by decide) hp)⟩⟩))))⟩⟩)))))))))⟩
        · show bg s = upd yb s _ s
          rw [pk_us, vn_0]; exact hb1
  · refine ⟨1, (nI L, pn, wp, nI m, nI S, se, fl, nI q, 0, nI (s + 1), 1, y, rs, sn, it, le, pe, op, kd, nu, co, cl, ap, rd, si, bg, ct, ls, hd, hk, hc, vl), (nI L, nI m, nI S, wy, nI q, ya, se, fl, y, vt, ot, ra, br, oc, it, le, tk, cn, kd, nu, lf, la, pc, yb, yh, yk, ho, ap, rd, si, vs, os), fun post hp => ?_, fun post hp => ?_, md_give y hkd hS hs h (k := 5) (r1 := r s) fr_id (Or.inr rfl) (Or.inr ⟨rfl, Nat.le_refl _⟩) (Nat.le_refl _) h.1 hkc (fun P' hP => hT)⟩
    · subst hx
      exact ⟨hv, nm_r hk0 (br_f (by decide) (br_f (by decide) (br_f (by decide) (br_f (by decide) (br_f (by decide) (br_f (by decide) (br_f (by decide) (br_t rfl (⟨hv, br_f hb1 (xr_give hp)⟩)))))))))⟩
    · subst hx
      exact ⟨hv, nm_r hk0 (br_f (by decide) (br_f (by decide) (br_f (by decide) (br_f (by decide) (br_f (by decide) (br_f (by decide) (br_f (by decide) (br_t rfl (⟨hv, br_t hk5 ⟨hv, br_f (by rw [← hT]; exact hb1) hp⟩⟩)))))))))⟩
theorem cm_2 (hkd : ∀ t, t < S → (kd t).toNatClampNeg ≤ 16) (hS : S ≤ 8) (hL : L ≤ 150) (hs : s < S) (hv : vp_in x 8) (hx : x.toNatClampNeg = s) (h : dd_D S L m le kd nu g e r b 1 (s + 1) q sn ya bg ct ls hd hk hc lf la pc yb yh yk ho) (hk0 : kd s = nI 2) : ∃ (act : Int32) (u1 : SX) (v1 : SY), (∀ post : SX → Prop, post u1 → wpX_elementCame post (nI L, pn, wp, nI m, nI S, se, fl, nI q, 0, nI s, 1, y, rs, sn, it, le, pe, op, kd, nu, co, cl, ap, rd, si, bg, ct, ls, hd, hk, hc, vl) x y) ∧ (∀ post : Int32 → SY → Prop, post act v1 → wpY_came post (nI L, nI m, nI S, wy, nI q, ya, se, fl, y, vt, ot, ra, br, oc, it, le, tk, cn, kd, nu, lf, la, pc, yb, yh, yk, ho, ap, rd, si, vs, os) x) ∧ rr_N pn wp se wy ra it le pe op kd nu co cl si tk cn L S m (rn_P S g b 1 (s + 1)) (s + 1) act u1 v1 := by
  have hkc : (kd s).toNatClampNeg = 2 := by rw [hk0]; exact nI_clamp (by omega)
  have hT : ct s = lf s := dd_get h hs hk0 (by omega)
  refine ⟨1, (nI L, pn, wp, nI m, nI S, se, fl, nI q, 0, nI (s + 1), 1, y, rs, sn, it, le, pe, op, kd, nu, co, cl, ap, rd, si, bg, upd ct s (ct s + 1), ls, hd, hk, hc, vl), (nI L, nI m, nI S, wy, nI q, ya, se, fl, y, vt, ot, ra, br, oc, it, le, tk, cn, kd, nu, upd lf s (lf s + 1), la, pc, yb, yh, yk, ho, ap, rd, si, vs, os), fun post hp => ?_, fun post hp => ?_, md_give y hkd hS hs h (k := 2) (r1 := r s) ⟨fun t ht => by simp [pk_un ht], fun i hi => ⟨rfl, rfl⟩, fun i hi => ⟨rfl, rfl⟩⟩ (Or.inr rfl) (Or.inr ⟨rfl, Nat.le_refl _⟩) (Nat.le_refl _) h.1 hkc (fun P' hP => ?_)⟩
  · subst hx
    exact ⟨hv, nm_r hk0 (br_f (by decide) (br_f (by decide) (br_f (by decide) (br_f (by decide) (br_t rfl (⟨hv, hv, nm_e (xr_give hp)⟩))))))⟩
  · subst hx
    exact ⟨hv, nm_r hk0 (br_f (by decide) (br_f (by decide) (br_f (by decide) (br_f (by decide) (br_t rfl (⟨hv, hv, nm_e hp⟩))))))⟩
  · show upd ct s _ s = upd lf s _ s
    rw [pk_us, pk_us, hT]
theorem cm_3 (hkd : ∀ t, t < S → (kd t).toNatClampNeg ≤ 16) (hS : S ≤ 8) (hL : L ≤ 150) (hs : s < S) (hv : vp_in x 8) (hx : x.toNatClampNeg = s) (h : dd_D S L m le kd nu g e r b 1 (s + 1) q sn ya bg ct ls hd hk hc lf la pc yb yh yk ho) (hk0 : kd s = nI 3) : ∃ (act : Int32) (u1 : SX) (v1 : SY), (∀ post : SX → Prop, post u1 → wpX_elementCame post (nI L, pn, wp, nI m, nI S, se, fl, nI q, 0, nI s, 1, y, rs, sn, it, le, pe, op, kd, nu, co, cl, ap, rd, si, bg, ct, ls, hd, hk, hc, vl) x y) ∧ (∀ post : Int32 → SY → Prop, post act v1 → wpY_came post (nI L, nI m, nI S, wy, nI q, ya, se, fl, y, vt, ot, ra, br, oc, it, le, tk, cn, kd, nu, lf, la, pc, yb, yh, yk, ho, ap, rd, si, vs, os) x) ∧ rr_N pn wp se wy ra it le pe op kd nu co cl si tk cn L S m (rn_P S g b 1 (s + 1)) (s + 1) act u1 v1 := by
  have hkc : (kd s).toNatClampNeg = 3 := by rw [hk0]; exact nI_clamp (by omega)
  have hPb := dd_bound hS hL (by omega) h
  obtain ⟨j, hj, hlf, hn1, hn2⟩ := dd_get h hs hk0 (by omega)
  have hl1 : lf s + 1 = nI (j + 1) := by rw [hlf, nI_1]
  by_cases hneg : nu s < 1
  · have hct := hn1 hneg
    have hle0 : nu s ≤ 0 := by
      apply Classical.byContradiction
      intro z
      have z := Int32.not_le.mp z
      rw [Int32.lt_iff_toInt_lt] at z hneg
      have e0 : (0 : Int32).toInt = 0 := by decide
      have e1 : (1 : Int32).toInt = 1 := by decide
      omega
    refine ⟨1, (nI L, pn, wp, nI m, nI S, se, fl, nI q, 0, nI (s + 1), 1, y, rs, sn, it, le, pe, op, kd, nu, co, cl, ap, rd, si, bg, ct, ls, hd, hk, hc, vl), (nI L, nI m, nI S, wy, nI q, ya, se, fl, y, vt, ot, ra, br, oc, it, le, tk, cn, kd, nu, upd lf s (lf s + 1), la, pc, yb, yh, yk, ho, ap, rd, si, vs, os), fun post hp => ?_, fun post hp => ?_, md_give y hkd hS hs h (k := 3) (r1 := r s) ⟨fun t ht => by simp [pk_un ht], fun i hi => ⟨rfl, rfl⟩, fun i hi => ⟨rfl, rfl⟩⟩ (Or.inr rfl) (Or.inr ⟨rfl, Nat.le_refl _⟩) (Nat.le_refl _) h.1 hkc (fun P' hP => ?_)⟩
    · subst hx
      exact ⟨hv, nm_r hk0 (br_f (by decide) (br_f (by decide) (br_f (by decide) (br_f (by decide) (br_f (by decide) (br_t rfl (⟨hv, hv, br_t (by rw [hct]; exact hle0) (xr_give hp)⟩)))))))⟩
    · subst hx
      refine ⟨hv, nm_r hk0 (br_f (by decide) (br_f (by decide) (br_f (by decide) (br_f (by decide) (br_f (by decide) (br_t rfl (⟨hv, hv, nm_e ⟨hv, hv, br_t ?_ hp⟩⟩)))))))⟩
      rw [pk_us, hl1]
      exact Int32.lt_of_le_of_lt hle0 (nI_lt (a := 0) (by omega) (by omega))
    · refine ⟨j + 1, by omega, by rw [pk_us]; exact hl1, fun _ => hct, fun mm hmm e => ?_⟩
      rw [e] at hneg hle0
      have : mm = 0 := by
        have := (nI_leI (a := mm) (b := 0) hmm (by omega)).mp hle0
        omega
      subst this
      rw [hct, Nat.min_zero]; rfl
  · obtain ⟨mm, hmm, e⟩ := nI_of (x := nu s) (fun z => hneg (Int32.lt_trans z (by decide)))
    have hm1 : 1 ≤ mm := by
      apply Classical.byContradiction
      intro z
      have : mm = 0 := by omega
      subst this
      exact hneg (by rw [e]; decide)
    have hct := hn2 mm hmm e
    by_cases hmj : mm ≤ j
    · rw [Nat.min_eq_right hmj] at hct
      refine ⟨1, (nI L, pn, wp, nI m, nI S, se, fl, nI q, 0, nI (s + 1), 1, y, rs, sn, it, le, pe, op, kd, nu, co, cl, ap, rd, si, bg, ct, ls, hd, hk, hc, vl), (nI L, nI m, nI S, wy, nI q, ya, se, fl, y, vt, ot, ra, br, oc, it, le, tk, cn, kd, nu, upd lf s (lf s + 1), la, pc, yb, yh, yk, ho, ap, rd, si, vs, os), fun post hp => ?_, fun post hp => ?_, md_give y hkd hS hs h (k := 3) (r1 := r s) ⟨fun t ht => by simp [pk_un ht], fun i hi => ⟨rfl, rfl⟩, fun i hi => ⟨rfl, rfl⟩⟩ (Or.inr rfl) (Or.inr ⟨rfl, Nat.le_refl _⟩) (Nat.le_refl _) h.1 hkc (fun P' hP => ?_)⟩
      · subst hx
        exact ⟨hv, nm_r hk0 (br_f (by decide) (br_f (by decide) (br_f (by decide) (br_f (by decide) (br_f (by decide) (br_t rfl (⟨hv, hv, br_t (by rw [hct, e]; exact Int32.le_refl _) (xr_give hp)⟩)))))))⟩
      · subst hx
        refine ⟨hv, nm_r hk0 (br_f (by decide) (br_f (by decide) (br_f (by decide) (br_f (by decide) (br_f (by decide) (br_t rfl (⟨hv, hv, nm_e ⟨hv, hv, br_t ?_ hp⟩⟩)))))))⟩
        rw [pk_us, hl1, e]
        exact nI_lt (by omega) (by omega)
      · refine ⟨j + 1, by omega, by rw [pk_us]; exact hl1, fun z => absurd z hneg, fun m2 hm2 e2 => ?_⟩
        rw [e] at e2
        have := (nI_eq hmm hm2).mp e2
        subst this
        rw [hct, Nat.min_eq_right (by omega)]
    · rw [Nat.min_eq_left (by omega)] at hct
      refine ⟨2, (nI L, pn, wp, nI m, nI S, se, fl, nI q, 0, rn_aI s, 0, y, rs, sn, it, le, pe, op, kd, nu, co, cl, ap, rd, si, bg, upd ct s (ct s + 1), ls, hd, hk, hc, vl), (nI L, nI m, nI S, wy, nI q, ya, se, fl, y, vt, ot, ra, br, oc, it, le, tk, cn, kd, nu, upd lf s (lf s + 1), la, pc, yb, yh, yk, ho, ap, rd, si, vs, os), fun post hp => ?_, fun post hp => ?_, md_ask hkd hS hs h (k := 3) (r1 := r s) ⟨fun t ht => by simp [pk_un ht], fun i hi => ⟨rfl, rfl⟩, fun i hi => ⟨rfl, rfl⟩⟩ (Or.inr rfl) (Or.inl (Nat.le_refl _)) (fun z => absurd z (by simp [rn_cl])) (Nat.le_refl _) h.1 hkc (fun P' hP => ?_)⟩
      · subst hx
        refine ⟨hv, nm_r hk0 (br_f (by decide) (br_f (by decide) (br_f (by decide) (br_f (by decide) (br_f (by decide) (br_t rfl (⟨hv, hv, br_f ?_ ⟨hv, hv, nm_e (xr_ask hp)⟩⟩)))))))⟩
        rw [hct, e]; exact nI_ge (by omega) hmm
      · subst hx
        refine ⟨hv, nm_r hk0 (br_f (by decide) (br_f (by decide) (br_f (by decide) (br_f (by decide) (br_f (by decide) (br_t rfl (⟨hv, hv, nm_e ⟨hv, hv, br_f ?_ ⟨hv, br_t (Int32.not_lt.mp hneg) hp⟩⟩⟩)))))))⟩
        rw [pk_us, hl1, e, nI_ltI hmm (by omega)]; omega
      · refine ⟨j + 1, by omega, by rw [pk_us]; exact hl1, fun z => absurd z hneg, fun m2 hm2 e2 => ?_⟩
        rw [e] at e2
        have := (nI_eq hmm hm2).mp e2
        subst this
        rw [pk_us, hct, nI_1, Nat.min_eq_left (by omega)]
theorem cm_6 (hkd : ∀ t, t < S → (kd t).toNatClampNeg ≤ 16) (hS : S ≤ 8) (hL : L ≤ 150) (hs : s < S) (hv : vp_in x 8) (hx : x.toNatClampNeg = s) (h : dd_D S L m le kd nu g e r b 1 (s + 1) q sn ya bg ct ls hd hk hc lf la pc yb yh yk ho) (hk0 : kd s = nI 6) : ∃ (act : Int32) (u1 : SX) (v1 : SY), (∀ post : SX → Prop, post u1 → wpX_elementCame post (nI L, pn, wp, nI m, nI S, se, fl, nI q, 0, nI s, 1, y, rs, sn, it, le, pe, op, kd, nu, co, cl, ap, rd, si, bg, ct, ls, hd, hk, hc, vl) x y) ∧ (∀ post : Int32 → SY → Prop, post act v1 → wpY_came post (nI L, nI m, nI S, wy, nI q, ya, se, fl, y, vt, ot, ra, br, oc, it, le, tk, cn, kd, nu, lf, la, pc, yb, yh, yk, ho, ap, rd, si, vs, os) x) ∧ rr_N pn wp se wy ra it le pe op kd nu co cl si tk cn L S m (rn_P S g b 1 (s + 1)) (s + 1) act u1 v1 := by
  have hkc : (kd s).toNatClampNeg = 6 := by rw [hk0]; exact nI_clamp (by omega)
  have hk7 : ¬ kd s = 7 := by rw [hk0]; decide
  refine ⟨1, (nI L, pn, wp, nI m, nI S, se, fl, nI q, 0, nI (s + 1), 1, y, rs, sn, it, le, pe, op, kd, nu, co, cl, ap, rd, si, bg, upd ct s (nu s - 1), upd ls s y, hd, hk, hc, vl), (nI L, nI m, nI S, wy, nI q, ya, se, fl, y, vt, ot, ra, br, oc, it, le, tk, cn, kd, nu, upd lf s (nu s - 1), upd la s y, pc, yb, yh, yk, ho, ap, rd, si, vs, os), fun post hp => ?_, fun post hp => ?_, md_give y hkd hS hs h (k := 6) (r1 := r s) ⟨fun t ht => by simp [pk_un ht], fun i hi => ⟨rfl, rfl⟩, fun i hi => ⟨rfl, rfl⟩⟩ (Or.inr rfl) (Or.inr ⟨rfl, Nat.le_refl _⟩) (Nat.le_refl _) h.1 hkc (fun P' hP => ?_)⟩
  · subst hx
    exact ⟨hv, nm_r hk0 (br_f (by decide) (br_f (by decide) (br_f (by decide) (br_f (by decide) (br_f (by decide) (br_f (by decide) (br_f (by decide) (br_f (by decide) (br_t rfl (⟨hv, hv, nm_e ⟨hv, nm_e (xr_give hp)⟩⟩))))))))))⟩
  · subst hx
    exact ⟨hv, nm_r hk0 (br_f (by decide) (br_f (by decide) (br_f (by decide) (br_f (by decide) (br_f (by decide) (br_f (by decide) (br_f (by decide) (br_f (by decide) (br_t rfl (⟨hv, nm_e ⟨hv, br_f hk7 ⟨hv, hv, nm_e hp⟩⟩⟩))))))))))⟩
  · show upd ct s _ s = upd lf s _ s ∧ (_ → upd ls s _ s = upd la s _ s)
    rw [pk_us, pk_us, pk_us, pk_us]; exact ⟨rfl, fun _ => rfl⟩
theorem cm_7 (hkd : ∀ t, t < S → (kd t).toNatClampNeg ≤ 16) (hS : S ≤ 8) (hL : L ≤ 150) (hs : s < S) (hv : vp_in x 8) (hx : x.toNatClampNeg = s) (h : dd_D S L m le kd nu g e r b 1 (s + 1) q sn ya bg ct ls hd hk hc lf la pc yb yh yk ho) (hk0 : kd s = nI 7) : ∃ (act : Int32) (u1 : SX) (v1 : SY), (∀ post : SX → Prop, post u1 → wpX_elementCame post (nI L, pn, wp, nI m, nI S, se, fl, nI q, 0, nI s, 1, y, rs, sn, it, le, pe, op, kd, nu, co, cl, ap, rd, si, bg, ct, ls, hd, hk, hc, vl) x y) ∧ (∀ post : Int32 → SY → Prop, post act v1 → wpY_came post (nI L, nI m, nI S, wy, nI q, ya, se, fl, y, vt, ot, ra, br, oc, it, le, tk, cn, kd, nu, lf, la, pc, yb, yh, yk, ho, ap, rd, si, vs, os) x) ∧ rr_N pn wp se wy ra it le pe op kd nu co cl si tk cn L S m (rn_P S g b 1 (s + 1)) (s + 1) act u1 v1 := by
  have hkc : (kd s).toNatClampNeg = 7 := by rw [hk0]; exact nI_clamp (by omega)
  have hk7 : kd s = 7 := hk0
  refine ⟨1, (nI L, pn, wp, nI m, nI S, se, fl, nI q, 0, nI (s + 1), 1, y, rs, sn, it, le, pe, op, kd, nu, co, cl, ap, rd, si, bg, upd ct s 2, upd ls s y, hd, hk, hc, vl), (nI L, nI m, nI S, wy, nI q, ya, se, fl, y, vt, ot, ra, br, oc, it, le, tk, cn, kd, nu, upd lf s 2, upd la s y, pc, yb, yh, yk, ho, ap, rd, si, vs, os), fun post hp => ?_, fun post hp => ?_, md_give y hkd hS hs h (k := 7) (r1 := r s) ⟨fun t ht => by simp [pk_un ht], fun i hi => ⟨rfl, rfl⟩, fun i hi => ⟨rfl, rfl⟩⟩ (Or.inr rfl) (Or.inr ⟨rfl, Nat.le_refl _⟩) (Nat.le_refl _) h.1 hkc (fun P' hP => ?_)⟩
  · subst hx
    exact ⟨hv, nm_r hk0 (br_f (by decide) (br_f (by decide) (br_f (by decide) (br_f (by decide) (br_f (by decide) (br_f (by decide) (br_f (by decide) (br_f (by decide) (br_f (by decide) (br_t rfl (⟨hv, nm_e ⟨hv, nm_e (xr_give hp)⟩⟩)))))))))))⟩
  · subst hx
    exact ⟨hv, nm_r hk0 (br_f (by decide) (br_f (by decide) (br_f (by decide) (br_f (by decide) (br_f (by decide) (br_f (by decide) (br_f (by decide) (br_f (by decide) (br_f (by decide) (br_t rfl (⟨hv, nm_e ⟨hv, br_t hk7 ⟨hv, nm_e hp⟩⟩⟩)))))))))))⟩
  · show upd ct s _ s = upd lf s _ s ∧ (_ → upd ls s _ s = upd la s _ s)
    rw [pk_us, pk_us, pk_us, pk_us]; exact ⟨rfl, fun _ => rfl⟩
theorem cm_9 (hkd : ∀ t, t < S → (kd t).toNatClampNeg ≤ 16) (hS : S ≤ 8) (hL : L ≤ 150) (hs : s < S) (hv : vp_in x 8) (hx : x.toNatClampNeg = s) (h : dd_D S L m le kd nu g e r b 1 (s + 1) q sn ya bg ct ls hd hk hc lf la pc yb yh yk ho) (hk0 : kd s = nI 9) : ∃ (act : Int32) (u1 : SX) (v1 : SY), (∀ post : SX → Prop, post u1 → wpX_elementCame post (nI L, pn, wp, nI m, nI S, se, fl, nI q, 0, nI s, 1, y, rs, sn, it, le, pe, op, kd, nu, co, cl, ap, rd, si, bg, ct, ls, hd, hk, hc, vl) x y) ∧ (∀ post : Int32 → SY → Prop, post act v1 → wpY_came post (nI L, nI m, nI S, wy, nI q, ya, se, fl, y, vt, ot, ra, br, oc, it, le, tk, cn, kd, nu, lf, la, pc, yb, yh, yk, ho, ap, rd, si, vs, os) x) ∧ rr_N pn wp se wy ra it le pe op kd nu co cl si tk cn L S m (rn_P S g b 1 (s + 1)) (s + 1) act u1 v1 := by
  have hkc : (kd s).toNatClampNeg = 9 := by rw [hk0]; exact nI_clamp (by omega)
  refine ⟨1, (nI L, pn, wp, nI m, nI S, se, fl, nI q, 0, nI (s + 1), 1, y, rs, sn, it, le, pe, op, kd, nu, co, cl, ap, rd, si, bg, ct, ls, hd, hk, hc, vl), (nI L, nI m, nI S, wy, nI q, ya, se, fl, y, vt, ot, ra, br, oc, it, le, tk, cn, kd, nu, lf, la, pc, yb, yh, yk, ho, ap, rd, si, vs, os), fun post hp => ?_, fun post hp => ?_, md_give y hkd hS hs h (k := 9) (r1 := r s) fr_id (Or.inr rfl) (Or.inr ⟨rfl, Nat.le_refl _⟩) (Nat.le_refl _) h.1 hkc (fun P' hP => ?_)⟩
  · subst hx
    exact ⟨hv, nm_r hk0 (br_f (by decide) (br_f (by decide) (br_f (by decide) (br_f (by decide) (br_f (by decide) (br_f (by decide) (br_f (by decide) (br_f (by decide) (br_f (by decide) (br_f (by decide) (br_f (by decide) (br_t rfl (xr_give hp)))))))))))))⟩
  · subst hx
    exact ⟨hv, nm_r hk0 (br_f (by decide) (br_f (by decide) (br_f (by decide) (br_f (by decide) (br_f (by decide) (br_f (by decide) (br_f (by decide) (br_f (by decide) (br_f (by decide) (br_f (by decide) (br_f (by decide) (br_t rfl (hp)))))))))))))⟩
  · exact dd_mono (k := 9) (by omega) (Nat.le_of_lt hP) (dd_get h hs hk0 (by omega))
end
