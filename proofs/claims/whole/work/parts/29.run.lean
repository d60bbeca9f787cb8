def ru_B (T c : Int32) : Int64 := if T = 2 then c.toInt64 + 1 else if T = 8 then (if 16 ≤ c then 16 else c.toInt64) else 1000000
def rx_W (post : Int64 → SX → Prop) (T c : Int32) (B : Int64) (n : Nat) (xa : Int64) (x7 : Int32) (x8 : Int64) (u : SX) : Prop := match u with
  | (a1, a2, a3, a4, a5, a6, a7, a8, a9, a10, a11, a12, a13, a14, a15, a16, a17, a18, a19, a20, a21, a22, a23, a24, a25, a26, a27, a28, a29, a30, a31, a32) => wX_run_36 post T c B n xa x7 x8 a1 a2 a3 a4 a5 a6 a7 a8 a9 a10 a11 a12 a13 a14 a15 a16 a17 a18 a19 a20 a21 a22 a23 a24 a25 a26 a27 a28 a29 a30 a31 a32
def ry_W (post : Int64 → SY → Prop) (T c : Int32) (B : Int64) (n : Nat) (yr x7 : Int64) (x9 x10 x11 : Int32) (u : SY) : Prop := match u with
  | (a1, a2, a3, a4, a5, a6, a7, a8, a9, a10, a11, a12, a13, a14, a15, a16, a17, a18, a19, a20, a21, a22, a23, a24, a25, a26, a27, a28, a29, a30, a31, a32) => wY_run_81 post T c B n yr x7 x9 x10 x11 a1 a2 a3 a4 a5 a6 a7 a8 a9 a10 a11 a12 a13 a14 a15 a16 a17 a18 a19 a20 a21 a22 a23 a24 a25 a26 a27 a28 a29 a30 a31 a32
theorem at_le {i : Nat} (hi : i < 100000) (c : Int32) : c.toInt64 + 1 ≤ lN i ↔ c.toInt + 1 ≤ (i : Int) := by
  have h1 := Int32.toInt_lt c
  have h2 := Int32.le_toInt c
  have e : (c.toInt64 + 1).toInt = c.toInt + 1 := by
    rw [Int64.toInt_add, Int32.toInt_toInt64, show (1 : Int64).toInt = 1 from by decide]
    exact Int.bmod_eq_of_le (by omega) (by omega)
  rw [Int64.le_iff_toInt_le, e, lN_toInt (by omega)]
theorem at_eq {i : Nat} (hi : i < 100000) (c : Int32) : lN i = c.toInt64 ↔ (i : Int) = c.toInt := by
  rw [← Int64.toInt_inj, lN_toInt (by omega), Int32.toInt_toInt64]
theorem ls_16 {i : Nat} (hi : i < 100000) (c : Int32) (h : ¬ ru_B (nI 8) c ≤ lN i) : i < 16 := by
  unfold ru_B at h
  rw [if_neg (by decide), if_pos (by decide)] at h
  by_cases h16 : 16 ≤ c
  · rw [if_pos h16, show (16 : Int64) = lN 16 from rfl, lN_le (by omega) (by omega)] at h
    omega
  · rw [if_neg h16, Int64.le_iff_toInt_le, lN_toInt (by omega), Int32.toInt_toInt64] at h
    rw [Int32.le_iff_toInt_le, show (16 : Int32).toInt = 16 from by decide] at h16
    omega
section
variable {lm pn wp sr sc se fl sp pt sg el rs sn wy ya vv vt ot ra br : Int32} {en oc : Int64} {it le pe op kd nu co cl ap rd si bg ct ls hd hk hc vl tk cn lf la pc yb yh yk ho vs os : Nat → Int32}
variable {i : Nat} {c w best T x9 x10 : Int32} {B yr z0 xa : Int64} {S L m : Nat}
theorem ry_fin (tt : Nat) (htt : tt ≤ 8) (hi : i < 90000) (hR : ra_R tt c i xa yr best) (hAT : tt = 2 → i ≠ 0 → (x9 = 0 ↔ lN (i - 1) = c.toInt64)) {post : Int64 → SY → Prop} (h : post xa (lm, sr, sc, wy, sp, ya, se, fl, vv, vt, ot, ra, br, oc, it, le, tk, cn, kd, nu, lf, la, pc, yb, yh, yk, ho, ap, rd, si, vs, os)) : wY_run_282 post (nI tt) yr (lN i) x9 0 best lm sr sc wy sp ya se fl vv vt ot ra br oc it le tk cn kd nu lf la pc yb yh yk ho ap rd si vs os := by
  have hi0 := lN_0 hi
  have h371 : xa = (if i = 0 then 9000000000000000000 else best.toInt64) → wY_run_371 post (lN i) best lm sr sc wy sp ya se fl vv vt ot ra br oc it le tk cn kd nu lf la pc yb yh yk ho ap rd si vs os := by
    intro e
    refine br_c (fun z => ?_) (fun z => ?_)
    · rw [if_pos (hi0.mp z)] at e; rw [e] at h; exact h
    · rw [if_neg (fun y => z (hi0.mpr y))] at e; rw [e] at h; exact h
  rcases ru_9 htt with rfl | rfl | rfl | rfl | rfl | rfl | rfl | rfl | rfl
  · have hR : xa = lN i := hR
    rw [hR] at h
    exact br_f (by decide) (br_f (by decide) (br_t rfl h))
  · have hR : xa = yr := hR
    rw [hR] at h
    exact br_f (by decide) (br_f (by decide) (br_f (by decide) (br_t rfl h)))
  · have hR : xa = if i ≠ 0 ∧ lN (i - 1) = c.toInt64 then best.toInt64 else 9000000000000000000 := hR
    refine br_f (by decide) (br_f (by decide) (br_f (by decide) (br_f (by decide) (br_t rfl (br_c (fun z => ?_) (fun z => br_c (fun z9 => ?_) (fun z9 => ?_)))))))
    · rw [if_neg (fun y => y.1 (hi0.mp z))] at hR; rw [hR] at h; exact h
    · have n0 : i ≠ 0 := fun y => z (hi0.mpr y)
      rw [if_pos ⟨n0, (hAT rfl n0).mp z9⟩] at hR; rw [hR] at h; exact h
    · have n0 : i ≠ 0 := fun y => z (hi0.mpr y)
      rw [if_neg (fun y => z9 ((hAT rfl n0).mpr y.2))] at hR; rw [hR] at h; exact h
  · have hR : xa = 0 := hR
    rw [hR] at h
    exact br_f (by decide) (br_f (by decide) (br_f (by decide) (br_f (by decide) (br_f (by decide) (br_t rfl (br_t rfl h))))))
  · exact br_f (by decide) (br_f (by decide) (br_f (by decide) (br_f (by decide) (br_f (by decide) (br_f (by decide) (br_t rfl (h371 hR)))))))
  · exact br_f (by decide) (br_f (by decide) (br_f (by decide) (br_f (by decide) (br_f (by decide) (br_f (by decide) (br_f (by decide) (br_t rfl (h371 hR))))))))
  · exact br_f (by decide) (br_f (by decide) (br_f (by decide) (br_f (by decide) (br_f (by decide) (br_f (by decide) (br_f (by decide) (br_f (by decide) (br_t rfl (h371 hR)))))))))
  · have hR : xa = yr := hR
    rw [hR] at h
    exact br_f (by decide) (br_f (by decide) (br_f (by decide) (br_f (by decide) (br_f (by decide) (br_f (by decide) (br_f (by decide) (br_f (by decide) (br_f (by decide) (br_t rfl h)))))))))
  · have hR : xa = lN i := hR
    rw [hR] at h
    exact br_f (by decide) (br_f (by decide) (br_f (by decide) (br_f (by decide) (br_f (by decide) (br_f (by decide) (br_f (by decide) (br_f (by decide) (br_f (by decide) (br_f (by decide) (br_t rfl h))))))))))
theorem ru_loop (hSt : ∀ t, t < S → rl_St kd nu co cl tk cn t) (hle : rl_L le) (hS : S ≤ 8) (hL0 : 20 ≤ L) (hL : L ≤ 150) (hm : m < 3) (hP0 : rl_P pn pe tk cn) (tt : Nat) (htt : tt ≤ 8) :
    ∀ (d P i : Nat) (se best : Int32) (si : Nat → Int32) (xa yr : Int64) (u : SX) (v : SY), 100000 ≤ P + d → i ≤ P → rb_B pn wp se wp 1 it le pe op kd nu co cl si tk cn L S m P u v → ra_R tt c i xa yr best → (tt = 8 → se = nI i) → (∃ z : Nat, z ≤ 16 ∧ se = nI z) → (i ≠ 0 → ¬ ru_B (nI tt) c ≤ lN (i - 1)) →
    ∃ (res : Int64) (ue : SX) (ve : SY), (∀ kk : Nat, i_Rel kk ue ve) ∧ (∀ (post : Int64 → SX → Prop) (nf : Nat), d < nf → post res ue → rx_W post (nI tt) c (ru_B (nI tt) c) nf xa 0 (lN i) u) ∧ (∀ (post : Int64 → SY → Prop) (nf : Nat), d < nf → post res ve → ry_W post (nI tt) c (ru_B (nI tt) c) nf yr (lN i) 0 0 best v) := by
  have hSr : ∃ m2 : Nat, m2 < 3 ∧ nI m = nI m2 := ⟨m, hm, rfl⟩
  have hM : rl_M (nI L) := ⟨L, hL0, hL, rfl⟩
  have hSS : rl_S (nI S) kd nu co cl tk cn := ⟨S, hS, rfl, hSt⟩
  have hA : ∀ ap rd : Nat → Int32, rl_A 1 ap rd := fun _ _ z => absurd z (by decide)
  intro d
  induction d using Nat.strongRecOn with
  | _ d IH =>
    intro P i se best si xa yr u v hPd hiP hB hR h8 hse hI
    have hPull := pl_pull hSt hle hS hL hm hB
    obtain ⟨q, g, e, r, b, fl, pt, sg, el, rs, sn, ya, vv, vt, ot, br, oc, ap, rd, bg, ct, ls, hd, hk, hc, lf, la, pc, yb, yh, yk, ho, vl, vs, os, rfl, rfl, rfl, hD⟩ := hB
    have hPb := dd_bound hS hL (by omega) hD
    by_cases hBi : ru_B (nI tt) c ≤ lN i
    · -- asked often enough
      refine ⟨xa, (nI L, pn, wp, nI m, nI S, se, fl, nI q, 0, pt, sg, el, rs, sn, it, le, pe, op, kd, nu, co, cl, ap, rd, si, bg, ct, ls, hd, hk, hc, vl), (nI L, nI m, nI S, wp, nI q, ya, se, fl, vv, vt, ot, 1, br, oc, it, le, tk, cn, kd, nu, lf, la, pc, yb, yh, yk, ho, ap, rd, si, vs, os), fun kk => rl_mk kk hM hP0 hSr hSS hle hse (hA _ _), fun post nf hf hp => ?_, fun post nf hf hp => ?_⟩
      · obtain ⟨f, rfl⟩ : ∃ f, nf = f + 1 := ⟨nf - 1, by omega⟩
        exact br_t hBi (br_t rfl hp)
      · obtain ⟨f, rfl⟩ : ∃ f, nf = f + 1 := ⟨nf - 1, by omega⟩
        refine br_t hBi (ry_fin tt htt (by omega) hR (fun h2 n0 => ?_) hp)
        subst h2
        refine ⟨fun _ => ?_, fun _ => rfl⟩
        have h1 := hI n0
        unfold ru_B at hBi h1
        rw [if_pos (by decide), at_le (by omega)] at hBi h1
        rw [at_eq (by omega)]
        omega
    · obtain ⟨o, u', v', hres, gx, gy⟩ := hPull
      rcases hres with ⟨rfl, ho⟩ | ⟨rfl, ho⟩ | ⟨rfl, w, P', hP', ho⟩
      · -- the run has been stopped, or has failed
        obtain ⟨q2, oe, fl2, pt2, sg2, el2, rs2, sn2, ya2, vv2, vt2, ot2, br2, ap2, rd2, bg2, ct2, ls2, hd2, hk2, hc2, lf2, la2, pc2, yb2, yh2, yk2, ho2, vl2, vs2, os2, h1, rfl, rfl⟩ := ho
        refine ⟨oe, (nI L, pn, wp, nI m, nI S, se, fl2, nI q2, oe, pt2, sg2, el2, rs2, sn2, it, le, pe, op, kd, nu, co, cl, ap2, rd2, si, bg2, ct2, ls2, hd2, hk2, hc2, vl2), (nI L, nI m, nI S, wp, nI q2, ya2, se, fl2, vv2, vt2, ot2, 1, br2, oe, it, le, tk, cn, kd, nu, lf2, la2, pc2, yb2, yh2, yk2, ho2, ap2, rd2, si, vs2, os2), fun kk => rl_mk kk hM hP0 hSr hSS hle hse (hA _ _), fun post nf hf hp => ?_, fun post nf hf hp => ?_⟩
        · obtain ⟨f, rfl⟩ : ∃ f, nf = f + 1 + 1 := ⟨nf - 2, by omega⟩
          refine br_f hBi (br_t rfl (gx _ ?_))
          exact br_t rfl (nm_e (br_c (fun _ => br_f h1 hp) (fun _ => br_f (by decide) (br_f h1 hp))))
        · obtain ⟨f, rfl⟩ : ∃ f, nf = f + 1 := ⟨nf - 1, by omega⟩
          refine br_f hBi (br_t rfl (br_t rfl (gy _ ?_)))
          exact br_t rfl hp
      · -- the pipeline has ended
        obtain ⟨q2, fl2, pt2, sg2, el2, rs2, sn2, ya2, vv2, vt2, ot2, br2, oc2, ap2, rd2, bg2, ct2, ls2, hd2, hk2, hc2, lf2, la2, pc2, yb2, yh2, yk2, ho2, vl2, vs2, os2, rfl, rfl⟩ := ho
        refine ⟨xa, (nI L, pn, wp, nI m, nI S, se, fl2, nI q2, 0, pt2, sg2, el2, rs2, sn2, it, le, pe, op, kd, nu, co, cl, ap2, rd2, si, bg2, ct2, ls2, hd2, hk2, hc2, vl2), (nI L, nI m, nI S, wp, nI q2, ya2, se, fl2, vv2, vt2, ot2, 1, br2, oc2, it, le, tk, cn, kd, nu, lf2, la2, pc2, yb2, yh2, yk2, ho2, ap2, rd2, si, vs2, os2), fun kk => rl_mk kk hM hP0 hSr hSS hle hse (hA _ _), fun post nf hf hp => ?_, fun post nf hf hp => ?_⟩
        · obtain ⟨f, rfl⟩ : ∃ f, nf = f + 1 + 1 := ⟨nf - 2, by omega⟩
          refine br_f hBi (br_t rfl (gx _ ?_))
          exact br_t rfl (nm_e (br_c (fun _ => br_t rfl hp) (fun _ => br_f (by decide) (br_t rfl hp))))
        · obtain ⟨f, rfl⟩ : ∃ f, nf = f + 1 + 1 := ⟨nf - 2, by omega⟩
          refine br_f hBi (br_t rfl (br_t rfl (gy _ ?_)))
          refine br_f (by decide) (br_t rfl (br_f (by decide) (br_f hBi (br_f (by decide) (ry_fin tt htt (by omega) hR (fun h2 n0 => ?_) hp)))))
          subst h2
          refine ⟨fun z => absurd z (by decide), fun z => absurd ?_ hBi⟩
          unfold ru_B
          rw [if_pos (by decide), at_le (by omega)]
          rw [at_eq (by omega)] at z
          omega
      · -- an element has come
        obtain ⟨q2, g2, e2, r2, b2, fl2, pt2, sg2, rs2, sn2, ya2, vt2, ot2, br2, oc2, ap2, rd2, bg2, ct2, ls2, hd2, hk2, hc2, lf2, la2, pc2, yb2, yh2, yk2, ho2, vl2, vs2, os2, rfl, rfl, rfl, hD2⟩ := ho
        obtain ⟨xa', se', si', k1, k2, k3, k4, k5, kX, kY⟩ := ru_up (lm := nI L) (pn := pn) (wp := wp) (sr := nI m) (sc := nI S) (se := se) (fl := fl2) (sp := nI q2) (pt := pt2) (sg := sg2) (rs := rs2) (sn := sn2) (wy := wp) (ya := ya2) (vt := vt2) (ot := ot2) (ra := 1) (br := br2) (en := 0) (oc := oc2) (it := it) (le := le) (pe := pe) (op := op) (kd := kd) (nu := nu) (co := co) (cl := cl) (ap := ap2) (rd := rd2) (si := si) (bg := bg2) (ct := ct2) (ls := ls2) (hd := hd2) (hk := hk2) (hc := hc2) (vl := vl2) (tk := tk) (cn := cn) (lf := lf2) (la := la2) (pc := pc2) (yb := yb2) (yh := yh2) (yk := yk2) (ho := ho2) (vs := vs2) (os := os2) (w := w) (B := ru_B (nI tt) c) tt htt (by omega) hR (fun z => ⟨h8 z, by subst z; exact ls_16 (by omega) c hBi⟩)
        have hse' : ∃ z : Nat, z ≤ 16 ∧ se' = nI z := by
          by_cases e8 : tt = 8
          · refine ⟨i + 1, ?_, k4 e8⟩
            subst e8
            have := ls_16 (by omega) c hBi
            omega
          · rw [k5 e8]; exact hse
        by_cases hhit : ru_hit (nI tt) c w = 0
        · obtain ⟨res, ue, ve, j1, j2, j3⟩ := IH (d - 1) (by omega) (rn_P S g2 b2 0 S) (i + 1) se' (ru_bs (nI tt) i best w) si' xa' (ru_yr (nI tt) yr w) (nI L, pn, wp, nI m, nI S, se', fl2, nI q2, 0, pt2, sg2, w, rs2, sn2, it, le, pe, op, kd, nu, co, cl, ap2, rd2, si', bg2, ct2, ls2, hd2, hk2, hc2, vl2) (nI L, nI m, nI S, wp, nI q2, ya2, se', fl2, w, vt2, ot2, 1, br2, oc2, it, le, tk, cn, kd, nu, lf2, la2, pc2, yb2, yh2, yk2, ho2, ap2, rd2, si', vs2, os2) (by omega) (by omega)
            ⟨q2, g2, e2, r2, b2, fl2, pt2, sg2, w, rs2, sn2, ya2, w, vt2, ot2, br2, oc2, ap2, rd2, bg2, ct2, ls2, hd2, hk2, hc2, lf2, la2, pc2, yb2, yh2, yk2, ho2, vl2, vs2, os2, rfl, rfl, rfl, hD2⟩ (k1 hhit) k4 hse' (fun _ => by rw [Nat.add_sub_cancel]; exact hBi)
          refine ⟨res, ue, ve, j1, fun post nf hf hp => ?_, fun post nf hf hp => ?_⟩
          · obtain ⟨f, rfl⟩ : ∃ f, nf = f + 1 := ⟨nf - 1, by omega⟩
            have hj := j2 post f (by omega) hp
            refine br_f hBi (br_t rfl (gx _ ?_))
            refine br_f (by decide) (kX _ ?_)
            exact br_c (fun e3 => br_f (k3 ((nI_eq (b := 3) (by omega) (by omega)).mp e3) hhit) (nm_r (lN_1 i) hj)) (fun _ => nm_r (lN_1 i) hj)
          · obtain ⟨f, rfl⟩ : ∃ f, nf = f + 1 := ⟨nf - 1, by omega⟩
            have hj := j3 post f (by omega) hp
            refine br_f hBi (br_t rfl (br_t rfl (gy _ ?_)))
            refine br_f (by decide) (br_f (by decide) (kY _ _ ?_))
            rw [hhit]
            exact hj
        · obtain ⟨h3, hx1⟩ := k2 hhit
          subst h3
          subst hx1
          have hh1 : ru_hit (nI 3) c w = 1 := by
            unfold ru_hit at hhit ⊢
            by_cases z : nI 3 = 3 ∧ ¬ w ≤ c
            · exact if_pos z
            · exact absurd (if_neg z) hhit
          refine ⟨1, (nI L, pn, wp, nI m, nI S, se', fl2, nI q2, 0, pt2, sg2, w, rs2, sn2, it, le, pe, op, kd, nu, co, cl, ap2, rd2, si', bg2, ct2, ls2, hd2, hk2, hc2, vl2), (nI L, nI m, nI S, wp, nI q2, ya2, se', fl2, w, vt2, ot2, 1, br2, oc2, it, le, tk, cn, kd, nu, lf2, la2, pc2, yb2, yh2, yk2, ho2, ap2, rd2, si', vs2, os2), fun kk => rl_mk kk hM hP0 hSr hSS hle hse' (hA _ _), fun post nf hf hp => ?_, fun post nf hf hp => ?_⟩
          · obtain ⟨f, rfl⟩ : ∃ f, nf = f + 1 + 1 := ⟨nf - 2, by omega⟩
            refine br_f hBi (br_t rfl (gx _ ?_))
            refine br_f (by decide) (kX _ ?_)
            exact br_t rfl (br_t rfl (nm_e (br_c (fun _ => br_t rfl hp) (fun _ => br_f (by decide) (br_t rfl hp)))))
          · obtain ⟨f, rfl⟩ : ∃ f, nf = f + 1 + 1 := ⟨nf - 2, by omega⟩
            refine br_f hBi (br_t rfl (br_t rfl (gy _ ?_)))
            refine br_f (by decide) (br_f (by decide) (kY _ _ ?_))
            rw [hh1]
            have h282 : wY_run_282 post (nI 3) (ru_yr (nI 3) yr w) (lN (i + 1)) 0 1 (ru_bs (nI 3) i best w) (nI L) (nI m) (nI S) wp (nI q2) ya2 se' fl2 w vt2 ot2 1 br2 oc2 it le tk cn kd nu lf2 la2 pc2 yb2 yh2 yk2 ho2 ap2 rd2 si' vs2 os2 :=
              br_f (by decide) (br_f (by decide) (br_f (by decide) (br_f (by decide) (br_f (by decide) (br_t rfl (br_f (by decide) hp))))))
            exact br_c (fun _ => h282) (fun _ => br_t rfl (br_f (by decide) h282))
end
