section
variable {lm pn wp sr sc se fl sp pt sg el rs sn wy ya vv vt ot ra br : Int32} {en oc : Int64} {it le pe op kd nu co cl ap rd si bg ct ls hd hk hc vl tk cn lf la pc yb yh yk ho vs os : Nat → Int32}
variable {bg' ct' ls' hd' hk' hc' lf' la' pc' yb' yh' yk' ho' : Nat → Int32} {S L m q s sgn k : Nat} {g e r b : Nat → Nat} {x y : Int32}
theorem ms_hkd (hSt : ∀ t, t < S → rl_St kd nu co cl tk cn t) : ∀ t, t < S → (kd t).toNatClampNeg ≤ 16 := by
  intro t ht
  obtain ⟨k, h1, h2, _⟩ := hSt t ht
  rw [h2, nI_clamp (by omega)]; exact h1
theorem ms_ls (hle : rl_L le) {mm : Nat} (h : mm < 3) : ∃ n : Nat, n ≤ 24 ∧ le mm = nI n := hle mm h
theorem ms_0 (hSt : ∀ t, t < S → rl_St kd nu co cl tk cn t) (hle : rl_L le) (hS : S ≤ 8) (hL : L ≤ 150) (hs : s < S) (h : dd_D S L m le kd nu g e r b 0 (s + 1) q sn ya bg ct ls hd hk hc lf la pc yb yh yk ho) :
    ∃ (act : Int32) (u1 : SX) (v1 : SY), (∀ (post : Int32 → SX → Prop) (nf t : Nat), t < 1000000 → nx_W post nf (nI (t + 1)) u1 → nx_W post (nf + 1) (nI t) (nI L, pn, wp, nI m, nI S, se, fl, nI q, 0, nI s, 0, el, rs, sn, it, le, pe, op, kd, nu, co, cl, ap, rd, si, bg, ct, ls, hd, hk, hc, vl)) ∧ (∀ (post : Int32 → SY → Prop) (nf : Nat), ny_A post nf s act v1 → ny_W post (nf + 1) (nI s) 2 1 (nI L, nI m, nI S, wy, nI q, ya, se, fl, vv, vt, ot, ra, br, oc, it, le, tk, cn, kd, nu, lf, la, pc, yb, yh, yk, ho, ap, rd, si, vs, os)) ∧ rr_N pn wp se wy ra it le pe op kd nu co cl si tk cn L S m (rn_P S g b 0 (s + 1)) (s + 1) act u1 v1 := by
  have hkd := ms_hkd hSt
  have hv : vp_in (nI s) 8 := vp_in_nI (by omega) (by omega)
  have hx : (nI s).toNatClampNeg = s := nI_clamp (by omega)
  have key : ∃ (act : Int32) (u1 : SX) (v1 : SY), (∀ post : SX → Prop, post u1 → wpX_stageAsked post (nI L, pn, wp, nI m, nI S, se, fl, nI q, 0, nI s, 0, el, rs, sn, it, le, pe, op, kd, nu, co, cl, ap, rd, si, bg, ct, ls, hd, hk, hc, vl) (nI s)) ∧ (∀ post : Int32 → SY → Prop, post act v1 → wpY_asked post (nI L, nI m, nI S, wy, nI q, ya, se, fl, vv, vt, ot, ra, br, oc, it, le, tk, cn, kd, nu, lf, la, pc, yb, yh, yk, ho, ap, rd, si, vs, os) (nI s)) ∧ rr_N pn wp se wy ra it le pe op kd nu co cl si tk cn L S m (rn_P S g b 0 (s + 1)) (s + 1) act u1 v1 := by
    obtain ⟨k, h1, h2, h3, h4⟩ := hSt s hs
    rcases st_17 h1 with rfl | rfl | rfl | rfl | rfl | rfl | rfl | rfl | rfl | rfl | rfl | rfl | rfl | rfl | rfl | rfl | rfl
    · exact as_0 hkd hS hL hs hv hx h h2
    · exact as_1 hkd hS hL hs hv hx h h2
    · exact as_2 hkd hS hL hs hv hx h h2
    · exact as_3 hkd hS hL hs hv hx h h2
    · exact as_4 hkd hS hL hs hv hx h h2
    · exact as_5 hkd hS hL hs hv hx h h2
    · exact as_6 hkd hS hL hs hv hx h h2
    · exact as_7 hkd hS hL hs hv hx h h2 (h4 (by decide))
    · exact as_8 hkd hS hL hs hv hx h h2
    · obtain ⟨mm, hm1, hm2⟩ := h3 (by simp)
      obtain ⟨n, hn1, hn2⟩ := ms_ls hle hm1
      exact as_9 hkd hS hL hs hv hx h h2 hm1 hn1 hm2 hn2
    · exact as_10 hkd hS hL hs hv hx h h2
    · obtain ⟨mm, hm1, hm2⟩ := h3 (by simp)
      obtain ⟨n, hn1, hn2⟩ := ms_ls hle hm1
      exact as_11 hkd hS hL hs hv hx h h2 hm1 hn1 hm2 hn2
    · exact as_12 hkd hS hL hs hv hx h h2
    · exact as_13 hkd hS hL hs hv hx h h2
    · exact as_14 hkd hS hL hs hv hx h h2
    · exact as_15 hkd hS hL hs hv hx h h2
    · exact as_16 hkd hS hL hs hv hx h h2
  obtain ⟨act, u1, v1, w1, w2, w3⟩ := key
  exact ⟨act, u1, v1, nx_as hs hS w1, ny_as hs hS w2, w3⟩
theorem ms_1 (hSt : ∀ t, t < S → rl_St kd nu co cl tk cn t) (hle : rl_L le) (hS : S ≤ 8) (hL : L ≤ 150) (hs : s < S) (h : dd_D S L m le kd nu g e r b 1 (s + 1) q sn ya bg ct ls hd hk hc lf la pc yb yh yk ho) :
    ∃ (act : Int32) (u1 : SX) (v1 : SY) (kx P1 : Nat), 1 ≤ kx ∧ kx ≤ 2 ∧ rn_P S g b 1 (s + 1) + kx ≤ P1 + 1 ∧ (∀ (post : Int32 → SX → Prop) (nf t : Nat), t + kx ≤ 1000000 → nx_W post nf (nI (t + kx)) u1 → nx_W post (nf + kx) (nI t) (nI L, pn, wp, nI m, nI S, se, fl, nI q, 0, nI s, 1, y, rs, sn, it, le, pe, op, kd, nu, co, cl, ap, rd, si, bg, ct, ls, hd, hk, hc, vl)) ∧ (∀ (post : Int32 → SY → Prop) (nf : Nat), ny_A post nf s act v1 → ny_W post (nf + 1) (nI s) 1 0 (nI L, nI m, nI S, wy, nI q, ya, se, fl, y, vt, ot, ra, br, oc, it, le, tk, cn, kd, nu, lf, la, pc, yb, yh, yk, ho, ap, rd, si, vs, os)) ∧ rr_N pn wp se wy ra it le pe op kd nu co cl si tk cn L S m P1 (s + 1) act u1 v1 := by
  have hkd := ms_hkd hSt
  have hv : vp_in (nI s) 8 := vp_in_nI (by omega) (by omega)
  have hx : (nI s).toNatClampNeg = s := nI_clamp (by omega)
  obtain ⟨k, h1, h2, h3, h4⟩ := hSt s hs
  have one : (∃ (act : Int32) (u1 : SX) (v1 : SY), (∀ post : SX → Prop, post u1 → wpX_elementCame post (nI L, pn, wp, nI m, nI S, se, fl, nI q, 0, nI s, 1, y, rs, sn, it, le, pe, op, kd, nu, co, cl, ap, rd, si, bg, ct, ls, hd, hk, hc, vl) (nI s) y) ∧ (∀ post : Int32 → SY → Prop, post act v1 → wpY_came post (nI L, nI m, nI S, wy, nI q, ya, se, fl, y, vt, ot, ra, br, oc, it, le, tk, cn, kd, nu, lf, la, pc, yb, yh, yk, ho, ap, rd, si, vs, os) (nI s)) ∧ rr_N pn wp se wy ra it le pe op kd nu co cl si tk cn L S m (rn_P S g b 1 (s + 1)) (s + 1) act u1 v1) →
      ∃ (act : Int32) (u1 : SX) (v1 : SY) (kx P1 : Nat), 1 ≤ kx ∧ kx ≤ 2 ∧ rn_P S g b 1 (s + 1) + kx ≤ P1 + 1 ∧ (∀ (post : Int32 → SX → Prop) (nf t : Nat), t + kx ≤ 1000000 → nx_W post nf (nI (t + kx)) u1 → nx_W post (nf + kx) (nI t) (nI L, pn, wp, nI m, nI S, se, fl, nI q, 0, nI s, 1, y, rs, sn, it, le, pe, op, kd, nu, co, cl, ap, rd, si, bg, ct, ls, hd, hk, hc, vl)) ∧ (∀ (post : Int32 → SY → Prop) (nf : Nat), ny_A post nf s act v1 → ny_W post (nf + 1) (nI s) 1 0 (nI L, nI m, nI S, wy, nI q, ya, se, fl, y, vt, ot, ra, br, oc, it, le, tk, cn, kd, nu, lf, la, pc, yb, yh, yk, ho, ap, rd, si, vs, os)) ∧ rr_N pn wp se wy ra it le pe op kd nu co cl si tk cn L S m P1 (s + 1) act u1 v1 := by
    rintro ⟨act, u1, v1, w1, w2, w3⟩
    exact ⟨act, u1, v1, 1, _, by omega, by omega, by omega, fun post nf t ht hp => nx_cm hs hS w1 post nf t (by omega) hp, ny_cm hs hS w2, w3⟩
  rcases st_17 h1 with rfl | rfl | rfl | rfl | rfl | rfl | rfl | rfl | rfl | rfl | rfl | rfl | rfl | rfl | rfl | rfl | rfl
  · exact one (cm_0 hkd hS hL hs hv hx h h2 (h4 (by decide)))
  · exact one (cm_1 hkd hS hL hs hv hx h h2 (h4 (by decide)))
  · exact one (cm_2 hkd hS hL hs hv hx h h2)
  · exact one (cm_3 hkd hS hL hs hv hx h h2)
  · exact one (cm_4 hkd hS hL hs hv hx h h2 (h4 (by decide)))
  · exact one (cm_5 hkd hS hL hs hv hx h h2 (h4 (by decide)))
  · exact one (cm_6 hkd hS hL hs hv hx h h2)
  · exact one (cm_7 hkd hS hL hs hv hx h h2)
  · exact one (cm_8 hkd hS hL hs hv hx h h2)
  · exact one (cm_9 hkd hS hL hs hv hx h h2)
  · obtain ⟨mm, hm1, hm2⟩ := h3 (by simp)
    obtain ⟨n, hn1, hn2⟩ := ms_ls hle hm1
    exact one (cm_10 hkd hS hL hs hv hx h h2 (h4 (by decide)) hm1 hn1 hm2 hn2)
  · obtain ⟨mm, hm1, hm2⟩ := h3 (by simp)
    obtain ⟨n, hn1, hn2⟩ := ms_ls hle hm1
    obtain ⟨act, u1, v1, P1, hP, w1, w2, w3, w4⟩ := cm_11 (pn := pn) (wp := wp) (se := se) (fl := fl) (rs := rs) (sn := sn) (it := it) (le := le) (pe := pe) (op := op) (kd := kd) (nu := nu) (co := co) (cl := cl) (ap := ap) (rd := rd) (si := si) (bg := bg) (ct := ct) (ls := ls) (hd := hd) (hk := hk) (hc := hc) (vl := vl) (wy := wy) (ya := ya) (vt := vt) (ot := ot) (ra := ra) (br := br) (oc := oc) (tk := tk) (cn := cn) (lf := lf) (la := la) (pc := pc) (yb := yb) (yh := yh) (yk := yk) (ho := ho) (vs := vs) (os := os) (y := y) hkd hS hL hs hv hx h h2 hm1 hn1 hm2 hn2
    exact ⟨act, u1, v1, 2, P1, by omega, by omega, by omega, fun post nf t ht hp => nx_cm hs hS w1 post (nf + 1) t (by omega) (nx_as hs hS w2 post nf (t + 1) (by omega) hp), ny_cm hs hS w3, w4⟩
  · exact one (cm_12 hkd hS hL hs hv hx h h2 (h4 (by decide)))
  · exact one (cm_13 hkd hS hL hs hv hx h h2)
  · exact one (cm_14 hkd hS hL hs hv hx h h2 (h4 (by decide)))
  · exact one (cm_15 hkd hS hL hs hv hx h h2)
  · exact one (cm_16 hkd hS hL hs hv hx h h2 (h4 (by decide)))
theorem ms_2 (hSt : ∀ t, t < S → rl_St kd nu co cl tk cn t) (hle : rl_L le) (hS : S ≤ 8) (hL : L ≤ 150) (hs : s < S) (h : dd_D S L m le kd nu g e r b 2 (s + 1) q sn ya bg ct ls hd hk hc lf la pc yb yh yk ho) :
    ∃ (act : Int32) (u1 : SX) (v1 : SY) (kx P1 : Nat), 1 ≤ kx ∧ kx ≤ 2 ∧ rn_P S g b 2 (s + 1) + kx ≤ P1 + 1 ∧ (∀ (post : Int32 → SX → Prop) (nf t : Nat), t + kx ≤ 1000000 → nx_W post nf (nI (t + kx)) u1 → nx_W post (nf + kx) (nI t) (nI L, pn, wp, nI m, nI S, se, fl, nI q, 0, nI s, 2, el, rs, sn, it, le, pe, op, kd, nu, co, cl, ap, rd, si, bg, ct, ls, hd, hk, hc, vl)) ∧ (∀ (post : Int32 → SY → Prop) (nf : Nat), ny_A post nf s act v1 → ny_W post (nf + 1) (nI s) 0 0 (nI L, nI m, nI S, wy, nI q, ya, se, fl, vv, vt, ot, ra, br, oc, it, le, tk, cn, kd, nu, lf, la, pc, yb, yh, yk, ho, ap, rd, si, vs, os)) ∧ rr_N pn wp se wy ra it le pe op kd nu co cl si tk cn L S m P1 (s + 1) act u1 v1 := by
  have hkd := ms_hkd hSt
  have hv : vp_in (nI s) 8 := vp_in_nI (by omega) (by omega)
  have hx : (nI s).toNatClampNeg = s := nI_clamp (by omega)
  obtain ⟨k, h1, h2, h3, h4⟩ := hSt s hs
  have one : (∃ (act : Int32) (u1 : SX) (v1 : SY), (∀ post : SX → Prop, post u1 → wpX_endCame post (nI L, pn, wp, nI m, nI S, se, fl, nI q, 0, nI s, 2, el, rs, sn, it, le, pe, op, kd, nu, co, cl, ap, rd, si, bg, ct, ls, hd, hk, hc, vl) (nI s)) ∧ (∀ post : Int32 → SY → Prop, post act v1 → wpY_ended post (nI L, nI m, nI S, wy, nI q, ya, se, fl, vv, vt, ot, ra, br, oc, it, le, tk, cn, kd, nu, lf, la, pc, yb, yh, yk, ho, ap, rd, si, vs, os) (nI s)) ∧ rr_N pn wp se wy ra it le pe op kd nu co cl si tk cn L S m (rn_P S g b 2 (s + 1)) (s + 1) act u1 v1) →
      ∃ (act : Int32) (u1 : SX) (v1 : SY) (kx P1 : Nat), 1 ≤ kx ∧ kx ≤ 2 ∧ rn_P S g b 2 (s + 1) + kx ≤ P1 + 1 ∧ (∀ (post : Int32 → SX → Prop) (nf t : Nat), t + kx ≤ 1000000 → nx_W post nf (nI (t + kx)) u1 → nx_W post (nf + kx) (nI t) (nI L, pn, wp, nI m, nI S, se, fl, nI q, 0, nI s, 2, el, rs, sn, it, le, pe, op, kd, nu, co, cl, ap, rd, si, bg, ct, ls, hd, hk, hc, vl)) ∧ (∀ (post : Int32 → SY → Prop) (nf : Nat), ny_A post nf s act v1 → ny_W post (nf + 1) (nI s) 0 0 (nI L, nI m, nI S, wy, nI q, ya, se, fl, vv, vt, ot, ra, br, oc, it, le, tk, cn, kd, nu, lf, la, pc, yb, yh, yk, ho, ap, rd, si, vs, os)) ∧ rr_N pn wp se wy ra it le pe op kd nu co cl si tk cn L S m P1 (s + 1) act u1 v1 := by
    rintro ⟨act, u1, v1, w1, w2, w3⟩
    exact ⟨act, u1, v1, 1, _, by omega, by omega, by omega, fun post nf t ht hp => nx_en hs hS w1 post nf t (by omega) hp, ny_en hs hS w2, w3⟩
  have hks : kd (nI s).toNatClampNeg = kd s := by rw [hx]
  rcases st_17 h1 with rfl | rfl | rfl | rfl | rfl | rfl | rfl | rfl | rfl | rfl | rfl | rfl | rfl | rfl | rfl | rfl | rfl
  · exact one (en_pass hkd hS hL hs hv hx h h2 (by omega) (fun post hp => ⟨hv, nm_r (hks.trans h2) (br_t (by decide) (xr_end hp))⟩) (fun post hp => ⟨hv, nm_r (hks.trans h2) (br_f (by decide) (br_f (by decide) hp))⟩))
  · exact one (en_pass hkd hS hL hs hv hx h h2 (by omega) (fun post hp => ⟨hv, nm_r (hks.trans h2) (br_t (by decide) (xr_end hp))⟩) (fun post hp => ⟨hv, nm_r (hks.trans h2) (br_f (by decide) (br_f (by decide) hp))⟩))
  · exact one (en_pass hkd hS hL hs hv hx h h2 (by omega) (fun post hp => ⟨hv, nm_r (hks.trans h2) (br_t (by decide) (xr_end hp))⟩) (fun post hp => ⟨hv, nm_r (hks.trans h2) (br_f (by decide) (br_f (by decide) hp))⟩))
  · exact one (en_pass hkd hS hL hs hv hx h h2 (by omega) (fun post hp => ⟨hv, nm_r (hks.trans h2) (br_t (by decide) (xr_end hp))⟩) (fun post hp => ⟨hv, nm_r (hks.trans h2) (br_f (by decide) (br_f (by decide) hp))⟩))
  · exact one (en_pass hkd hS hL hs hv hx h h2 (by omega) (fun post hp => ⟨hv, nm_r (hks.trans h2) (br_t (by decide) (xr_end hp))⟩) (fun post hp => ⟨hv, nm_r (hks.trans h2) (br_f (by decide) (br_f (by decide) hp))⟩))
  · exact one (en_pass hkd hS hL hs hv hx h h2 (by omega) (fun post hp => ⟨hv, nm_r (hks.trans h2) (br_t (by decide) (xr_end hp))⟩) (fun post hp => ⟨hv, nm_r (hks.trans h2) (br_f (by decide) (br_f (by decide) hp))⟩))
  · exact one (en_pass hkd hS hL hs hv hx h h2 (by omega) (fun post hp => ⟨hv, nm_r (hks.trans h2) (br_t (by decide) (xr_end hp))⟩) (fun post hp => ⟨hv, nm_r (hks.trans h2) (br_f (by decide) (br_f (by decide) hp))⟩))
  · exact one (en_pass hkd hS hL hs hv hx h h2 (by omega) (fun post hp => ⟨hv, nm_r (hks.trans h2) (br_t (by decide) (xr_end hp))⟩) (fun post hp => ⟨hv, nm_r (hks.trans h2) (br_f (by decide) (br_f (by decide) hp))⟩))
  · exact one (en_pass hkd hS hL hs hv hx h h2 (by omega) (fun post hp => ⟨hv, nm_r (hks.trans h2) (br_t (by decide) (xr_end hp))⟩) (fun post hp => ⟨hv, nm_r (hks.trans h2) (br_f (by decide) (br_f (by decide) hp))⟩))
  · obtain ⟨mm, hm1, hm2⟩ := h3 (by simp)
    obtain ⟨n, hn1, hn2⟩ := ms_ls hle hm1
    obtain ⟨act, u1, v1, P1, hP, w1, w2, w3, w4⟩ := en_9 (pn := pn) (wp := wp) (se := se) (fl := fl) (el := el) (rs := rs) (sn := sn) (it := it) (le := le) (pe := pe) (op := op) (kd := kd) (nu := nu) (co := co) (cl := cl) (ap := ap) (rd := rd) (si := si) (bg := bg) (ct := ct) (ls := ls) (hd := hd) (hk := hk) (hc := hc) (vl := vl) (wy := wy) (ya := ya) (vv := vv) (vt := vt) (ot := ot) (ra := ra) (br := br) (oc := oc) (tk := tk) (cn := cn) (lf := lf) (la := la) (pc := pc) (yb := yb) (yh := yh) (yk := yk) (ho := ho) (vs := vs) (os := os) hkd hS hL hs hv hx h h2 hm1 hn1 hm2 hn2
    exact ⟨act, u1, v1, 2, P1, by omega, by omega, by omega, fun post nf t ht hp => nx_en hs hS w1 post (nf + 1) t (by omega) (nx_as hs hS w2 post nf (t + 1) (by omega) hp), ny_en hs hS w3, w4⟩
  · exact one (en_pass hkd hS hL hs hv hx h h2 (by omega) (fun post hp => ⟨hv, nm_r (hks.trans h2) (br_f (by decide) (br_f (by decide) (br_f (by decide) (br_t rfl (xr_end hp)))))⟩) (fun post hp => ⟨hv, nm_r (hks.trans h2) (br_f (by decide) (br_f (by decide) hp))⟩))
  · exact one (en_pass hkd hS hL hs hv hx h h2 (by omega) (fun post hp => ⟨hv, nm_r (hks.trans h2) (br_f (by decide) (br_f (by decide) (br_f (by decide) (br_f (by decide) (br_t rfl (xr_end hp))))))⟩) (fun post hp => ⟨hv, nm_r (hks.trans h2) (br_f (by decide) (br_f (by decide) hp))⟩))
  · exact one (en_pass hkd hS hL hs hv hx h h2 (by omega) (fun post hp => ⟨hv, nm_r (hks.trans h2) (br_f (by decide) (br_f (by decide) (br_f (by decide) (br_f (by decide) (br_f (by decide) (br_t rfl (xr_end hp)))))))⟩) (fun post hp => ⟨hv, nm_r (hks.trans h2) (br_f (by decide) (br_f (by decide) hp))⟩))
  · exact one (en_pass hkd hS hL hs hv hx h h2 (by omega) (fun post hp => ⟨hv, nm_r (hks.trans h2) (br_f (by decide) (br_f (by decide) (br_f (by decide) (br_f (by decide) (br_f (by decide) (br_f (by decide) (br_t rfl (xr_end hp))))))))⟩) (fun post hp => ⟨hv, nm_r (hks.trans h2) (br_f (by decide) (br_f (by decide) hp))⟩))
  · obtain ⟨act, u1, v1, P1, hP, w1, w2, w3, w4⟩ := en_14 (pn := pn) (wp := wp) (se := se) (fl := fl) (el := el) (rs := rs) (sn := sn) (it := it) (le := le) (pe := pe) (op := op) (kd := kd) (nu := nu) (co := co) (cl := cl) (ap := ap) (rd := rd) (si := si) (bg := bg) (ct := ct) (ls := ls) (hd := hd) (hk := hk) (hc := hc) (vl := vl) (wy := wy) (ya := ya) (vv := vv) (vt := vt) (ot := ot) (ra := ra) (br := br) (oc := oc) (tk := tk) (cn := cn) (lf := lf) (la := la) (pc := pc) (yb := yb) (yh := yh) (yk := yk) (ho := ho) (vs := vs) (os := os) hkd hS hL hs hv hx h h2
    exact ⟨act, u1, v1, 2, P1, by omega, by omega, by omega, fun post nf t ht hp => nx_en hs hS w1 post (nf + 1) t (by omega) (nx_as hs hS w2 post nf (t + 1) (by omega) hp), ny_en hs hS w3, w4⟩
  · obtain ⟨act, u1, v1, P1, hP, w1, w2, w3, w4⟩ := en_15 (pn := pn) (wp := wp) (se := se) (fl := fl) (el := el) (rs := rs) (sn := sn) (it := it) (le := le) (pe := pe) (op := op) (kd := kd) (nu := nu) (co := co) (cl := cl) (ap := ap) (rd := rd) (si := si) (bg := bg) (ct := ct) (ls := ls) (hd := hd) (hk := hk) (hc := hc) (vl := vl) (wy := wy) (ya := ya) (vv := vv) (vt := vt) (ot := ot) (ra := ra) (br := br) (oc := oc) (tk := tk) (cn := cn) (lf := lf) (la := la) (pc := pc) (yb := yb) (yh := yh) (yk := yk) (ho := ho) (vs := vs) (os := os) hkd hS hL hs hv hx h h2
    exact ⟨act, u1, v1, 2, P1, by omega, by omega, by omega, fun post nf t ht hp => nx_en hs hS w1 post (nf + 1) t (by omega) (nx_as hs hS w2 post nf (t + 1) (by omega) hp), ny_en hs hS w3, w4⟩
  · obtain ⟨act, u1, v1, P1, hP, w1, w2, w3, w4⟩ := en_16 (pn := pn) (wp := wp) (se := se) (fl := fl) (el := el) (rs := rs) (sn := sn) (it := it) (le := le) (pe := pe) (op := op) (kd := kd) (nu := nu) (co := co) (cl := cl) (ap := ap) (rd := rd) (si := si) (bg := bg) (ct := ct) (ls := ls) (hd := hd) (hk := hk) (hc := hc) (vl := vl) (wy := wy) (ya := ya) (vv := vv) (vt := vt) (ot := ot) (ra := ra) (br := br) (oc := oc) (tk := tk) (cn := cn) (lf := lf) (la := la) (pc := pc) (yb := yb) (yh := yh) (yk := yk) (ho := ho) (vs := vs) (os := os) hkd hS hL hs hv hx h h2
    exact ⟨act, u1, v1, 2, P1, by omega, by omega, by omega, fun post nf t ht hp => nx_en hs hS w1 post (nf + 1) t (by omega) (nx_as hs hS w2 post nf (t + 1) (by omega) hp), ny_en hs hS w3, w4⟩
/-- the source list is asked -/
theorem ms_sr (hSt : ∀ t, t < S → rl_St kd nu co cl tk cn t) (hle : rl_L le) (hS : S ≤ 8) (hL : L ≤ 150) (hm : m < 3) (h : dd_D S L m le kd nu g e r b 0 0 q sn ya bg ct ls hd hk hc lf la pc yb yh yk ho) :
    ∃ (act : Int32) (u1 : SX) (v1 : SY), (∀ (post : Int32 → SX → Prop) (nf t : Nat), t < 1000000 → nx_W post nf (nI (t + 1)) u1 → nx_W post (nf + 1) (nI t) (nI L, pn, wp, nI m, nI S, se, fl, nI q, 0, -1, 0, el, rs, sn, it, le, pe, op, kd, nu, co, cl, ap, rd, si, bg, ct, ls, hd, hk, hc, vl)) ∧
      (∀ (post : Int32 → SY → Prop) (nf : Nat), ((act = 3 ∧ post 3 v1) ∨ ((act = 0 ∨ act = 1) ∧ ny_W post nf (nI 0) act 0 v1)) → ny_W post (nf + 1) (-1) 2 1 (nI L, nI m, nI S, wy, nI q, ya, se, fl, vv, vt, ot, ra, br, oc, it, le, tk, cn, kd, nu, lf, la, pc, yb, yh, yk, ho, ap, rd, si, vs, os)) ∧
      ((act = 3 ∧ ro_O pn wp se wy ra it le pe op kd nu co cl si tk cn L S m u1 v1) ∨ (∃ P' : Nat, rn_P S g b 0 0 < P' ∧ ((act = 1 ∧ rr_R pn wp se wy ra it le pe op kd nu co cl si tk cn L S m 1 1 P' u1 v1) ∨ (act = 0 ∧ rr_R pn wp se wy ra it le pe op kd nu co cl si tk cn L S m 2 1 P' u1 v1)))) := by
  have hkd := ms_hkd hSt
  obtain ⟨n, hn1, hn2⟩ := hle m hm
  have hPb := dd_bound hS hL (by omega) h
  obtain ⟨h1, ⟨j, h2a, h2b, h2c⟩, h3, h4, h5, h6, h7, h8⟩ := id h
  have hlm : le (nI m).toNatClampNeg = nI n := by rw [nI_clamp (by omega)]; exact hn2
  have hlc : (le m).toNatClampNeg = n := by rw [hn2, nI_clamp (by omega)]
  rw [hlc] at h2c
  have hmi : vp_in (nI m) 3 := vp_in_nI hm (by omega)
  have hYst : ∀ (act : Int32) (v1 : SY), (∀ post : Int32 → SY → Prop, post act v1 → wpY_fetch post (nI L, nI m, nI S, wy, nI q, nI (j + 1), se, fl, vv, vt, ot, ra, br, oc, it, le, tk, cn, kd, nu, lf, la, pc, yb, yh, yk, ho, ap, rd, si, vs, os) (nI m) (nI j)) → ∀ (post : Int32 → SY → Prop) (nf : Nat), ((act = 3 ∧ post 3 v1) ∨ ((act = 0 ∨ act = 1) ∧ ny_W post nf (nI 0) act 0 v1)) → ny_W post (nf + 1) (-1) 2 1 (nI L, nI m, nI S, wy, nI q, ya, se, fl, vv, vt, ot, ra, br, oc, it, le, tk, cn, kd, nu, lf, la, pc, yb, yh, yk, ho, ap, rd, si, vs, os) := by
    intro act v1 hY post nf hp
    subst h2b
    have h77 : (match v1 with | (a1, a2, a3, a4, a5, a6, a7, a8, a9, a10, a11, a12, a13, a14, a15, a16, a17, a18, a19, a20, a21, a22, a23, a24, a25, a26, a27, a28, a29, a30, a31, a32) => wY_pull_77 post (wY_pull_11 post nf) (-1) act a1 a2 a3 a4 a5 a6 a7 a8 a9 a10 a11 a12 a13 a14 a15 a16 a17 a18 a19 a20 a21 a22 a23 a24 a25 a26 a27 a28 a29 a30 a31 a32) := by
      obtain ⟨a1, a2, a3, a4, a5, a6, a7, a8, a9, a10, a11, a12, a13, a14, a15, a16, a17, a18, a19, a20, a21, a22, a23, a24, a25, a26, a27, a28, a29, a30, a31, a32⟩ := v1
      rcases hp with ⟨rfl, hp⟩ | ⟨ha, hp⟩
      · exact br_t rfl hp
      · rcases ha with rfl | rfl
        · exact br_f (by decide) (br_f (by decide) (br_t rfl (nm_r (by decide) hp)))
        · exact br_f (by decide) (br_f (by decide) (br_t rfl (nm_r (by decide) hp)))
    obtain ⟨a1, a2, a3, a4, a5, a6, a7, a8, a9, a10, a11, a12, a13, a14, a15, a16, a17, a18, a19, a20, a21, a22, a23, a24, a25, a26, a27, a28, a29, a30, a31, a32⟩ := v1
    refine br_f ?_ (br_f (by decide) (nm_r (nI_1 j) (hY _ h77)))
    intro z
    exact Int32.lt_irrefl (Int32.lt_of_lt_of_le (Int32.lt_of_le_of_lt z (by decide : (-1 : Int32) < 0)) (nI_pos' (by omega)))
  by_cases hjn : j < n
  · rw [Nat.min_eq_left (by omega)] at h2c
    subst h2c
    have hlt : nI j < le (nI m).toNatClampNeg := by rw [hlm]; exact nI_lt hjn (by omega)
    by_cases hq : q < L
    · have hX : ∀ post : SX → Prop, post (nI L, pn, wp, nI m, nI S, se, fl, nI (q + 1), 0, rn_aI 1, 1, it (24 * m + j), it (24 * m + j), nI (j + 1), it, le, pe, op, kd, nu, co, cl, ap, upd rd m (rd m + 1), si, bg, ct, ls, hd, hk, hc, vl) → wpX_sourceAsked post (nI L, pn, wp, nI m, nI S, se, fl, nI q, 0, -1, 0, el, rs, nI j, it, le, pe, op, kd, nu, co, cl, ap, rd, si, bg, ct, ls, hd, hk, hc, vl) := fun post hp => by
        refine ⟨hmi, br_t hlt (xr_rd1 hL hq hm (by omega) ?_)⟩
        exact br_f (by decide) (nm_r (nI_1 j) (nm_r (by decide) hp))
      have hg := rn_sm_up g (fun t => if t = 0 then g t + 1 else g t) 0 (if_pos rfl) (fun t ht => if_neg ht) (S + 1) (by omega)
      have hP : rn_P S g b 0 0 < rn_P S (fun t => if t = 0 then g t + 1 else g t) b 1 1 := by
        unfold rn_P rn_ph
        rw [hg]; simp; omega
      refine ⟨1, _, (nI L, nI m, nI S, wy, nI (q + 1), nI (j + 1), se, fl, it (24 * m + j), vt, ot, ra, br, oc, it, le, tk, cn, kd, nu, lf, la, pc, yb, yh, yk, ho, ap, upd rd m (rd m + 1), si, vs, os), fun post nf t ht hp => nx_sr hS hX post nf t ht hp, hYst _ _ (fun post hp => yr_ft1 hL hq hm hn1 hn2 hjn hp), Or.inr ⟨_, hP, Or.inl ⟨rfl, q + 1, (fun t => if t = 0 then g t + 1 else g t), (fun t => if 0 < t then e t + 1 else e t), r, b, fl, it (24 * m + j), it (24 * m + j), nI (j + 1), nI (j + 1), it (24 * m + j), vt, ot, br, oc, ap, upd rd m (rd m + 1), bg, ct, ls, hd, hk, hc, lf, la, pc, yb, yh, yk, ho, vl, vs, os, rfl, rfl, fun _ => rfl, rfl, ?_⟩⟩⟩
      refine ⟨by omega, ⟨j + 1, by omega, rfl, by rw [hlc, Nat.min_eq_left (by omega)]⟩, fun s hs => ?_, fun t ht => ?_, fun s hs => ?_, fun s hs hp _ => ?_, fun s hs hp hc' => ?_, h8⟩
      · have := dd_mono (hkd s hs) (Nat.le_of_lt hP) (h3 s hs)
        exact this
      · have := h4 t ht
        dsimp only
        by_cases e0 : t = 0
        · subst e0; rw [if_pos rfl, if_neg (by omega)]; omega
        · rw [if_neg e0, if_pos (by omega)]; omega
      · have := h5 s hs
        dsimp only
        rw [if_pos (c := 0 < s + 1) (by omega)]
        split <;> omega
      · have := h5 s hs
        have e0 : s = 0 := by omega
        subst e0
        dsimp only
        rw [if_neg (by omega), if_pos (by omega)]; omega
      · exact h7 s hs (Or.inl (by omega)) hc'
    · have : L = q := by omega
      subst this
      have hX : ∀ post : SX → Prop, post (nI L, pn, wp, nI m, nI S, se, fl, nI L, 9000000000000000001, -1, 0, el, rs, nI j, it, le, pe, op, kd, nu, co, cl, ap, rd, si, bg, ct, ls, hd, hk, hc, vl) → wpX_sourceAsked post (nI L, pn, wp, nI m, nI S, se, fl, nI L, 0, -1, 0, el, rs, nI j, it, le, pe, op, kd, nu, co, cl, ap, rd, si, bg, ct, ls, hd, hk, hc, vl) := fun post hp => by
        refine ⟨hmi, br_t hlt (xr_rd0 ?_)⟩
        exact br_t rfl hp
      refine ⟨3, _, (nI L, nI m, nI S, wy, nI L, nI (j + 1), se, fl, vv, vt, ot, ra, br, 9000000000000000001, it, le, tk, cn, kd, nu, lf, la, pc, yb, yh, yk, ho, ap, rd, si, vs, os), fun post nf t ht hp => nx_sr hS hX post nf t ht hp, hYst _ _ (fun post hp => yr_ft0 hm hn1 hn2 hjn hp), Or.inl ⟨rfl, L, 9000000000000000001, fl, -1, 0, el, rs, nI j, nI (j + 1), vv, vt, ot, br, ap, rd, bg, ct, ls, hd, hk, hc, lf, la, pc, yb, yh, yk, ho, vl, vs, os, by decide, rfl, rfl⟩⟩
  · rw [Nat.min_eq_right (by omega)] at h2c
    subst h2c
    have hlt : ¬ nI n < le (nI m).toNatClampNeg := by rw [hlm]; exact Int32.lt_irrefl
    have hX : ∀ post : SX → Prop, post (nI L, pn, wp, nI m, nI S, se, fl, nI q, 0, rn_aI 1, 2, el, rs, nI n, it, le, pe, op, kd, nu, co, cl, ap, rd, si, bg, ct, ls, hd, hk, hc, vl) → wpX_sourceAsked post (nI L, pn, wp, nI m, nI S, se, fl, nI q, 0, -1, 0, el, rs, nI n, it, le, pe, op, kd, nu, co, cl, ap, rd, si, bg, ct, ls, hd, hk, hc, vl) := fun post hp =>
      ⟨hmi, br_f hlt (nm_r (by decide) hp)⟩
    have hP : rn_P S g b 0 0 < rn_P S g b 2 1 := by
      unfold rn_P rn_ph
      simp
    refine ⟨0, _, (nI L, nI m, nI S, wy, nI q, nI (j + 1), se, fl, vv, vt, ot, ra, br, oc, it, le, tk, cn, kd, nu, lf, la, pc, yb, yh, yk, ho, ap, rd, si, vs, os), fun post nf t ht hp => nx_sr hS hX post nf t ht hp, hYst _ _ (fun post hp => yr_ftE hm hn1 hn2 (by omega) (by omega) hp), Or.inr ⟨_, hP, Or.inr ⟨rfl, q, g, e, r, b, fl, el, rs, nI n, nI (j + 1), vv, vt, ot, br, oc, ap, rd, bg, ct, ls, hd, hk, hc, lf, la, pc, yb, yh, yk, ho, vl, vs, os, rfl, rfl, fun z => absurd z (by decide), rfl, ?_⟩⟩⟩
    refine ⟨h1, ⟨j + 1, by omega, rfl, by rw [hlc, Nat.min_eq_right (by omega)]⟩, fun s hs => dd_mono (hkd s hs) (Nat.le_of_lt hP) (h3 s hs), h4, h5, fun s hs hp z => absurd z (by decide), fun s hs hp hc' => h7 s hs (Or.inl (by omega)) hc', h8⟩
end
