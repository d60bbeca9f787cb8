theorem xr_most {post : Int64 → Prop} {T c : Int32} (h : post (ru_B T c)) : wpX_mostAsks post T c :=
  br_ite (fun _ z => z) (fun _ => br_ite (fun _ => br_ite (fun _ z => z) (fun _ z => z)) (fun _ z => z)) h
theorem xr_noth (tt : Nat) (htt : tt ≤ 8) (c : Int32) : ∃ xa : Int64, ra_R tt c 0 xa (if nI tt = 7 then 1 else 0) 0 ∧ ∀ post : Int64 → Prop, post xa → wpX_answerForNothing post (nI tt) := by
  rcases ru_9 htt with rfl | rfl | rfl | rfl | rfl | rfl | rfl | rfl | rfl
  · exact ⟨0, rfl, fun post h => br_f (by decide) (br_f (by decide) (br_t rfl h))⟩
  · exact ⟨0, rfl, fun post h => br_f (by decide) (br_f (by decide) (br_f (by decide) (br_t rfl h)))⟩
  · exact ⟨9000000000000000000, (if_neg (fun z => z.1 rfl)).symm, fun post h => br_f (by decide) (br_f (by decide) (br_f (by decide) (br_f (by decide) (br_t rfl h))))⟩
  · exact ⟨0, rfl, fun post h => br_f (by decide) (br_f (by decide) (br_f (by decide) (br_f (by decide) (br_f (by decide) (br_t rfl h)))))⟩
  · exact ⟨9000000000000000000, (if_pos rfl).symm, fun post h => br_f (by decide) (br_f (by decide) (br_f (by decide) (br_f (by decide) (br_f (by decide) (br_f (by decide) (br_t rfl h))))))⟩
  · exact ⟨9000000000000000000, (if_pos rfl).symm, fun post h => br_f (by decide) (br_f (by decide) (br_f (by decide) (br_f (by decide) (br_f (by decide) (br_f (by decide) (br_f (by decide) (br_t rfl h)))))))⟩
  · exact ⟨9000000000000000000, (if_pos rfl).symm, fun post h => br_f (by decide) (br_f (by decide) (br_f (by decide) (br_f (by decide) (br_f (by decide) (br_f (by decide) (br_f (by decide) (br_f (by decide) (br_t rfl h))))))))⟩
  · exact ⟨1, rfl, fun post h => br_f (by decide) (br_f (by decide) (br_f (by decide) (br_f (by decide) (br_f (by decide) (br_f (by decide) (br_f (by decide) (br_f (by decide) (br_f (by decide) (br_t rfl h)))))))))⟩
  · exact ⟨0, rfl, fun post h => br_f (by decide) (br_f (by decide) (br_f (by decide) (br_f (by decide) (br_f (by decide) (br_f (by decide) (br_f (by decide) (br_f (by decide) (br_f (by decide) (br_f (by decide) (br_t rfl h))))))))))⟩
theorem i_vc_run {k : Nat} {u : SX} {v : SY} (I : i_Rel k u v) (hk : k + 4 ≤ 2049) (v1 : Int32) (v2 : Int32) : wpX_run (fun r u' => wpY_run (fun r' v' => r' = r ∧ i_Rel (k + 4) u' v') v v1 v2) u v1 v2 := by
  have I' := i_up I
  obtain ⟨lm, pn, wp, sr, sc, se, fl, sp, py, pt, sg, el, rs, sn, ya, vv, vt, ot, ra, br, en, oc, it, le, pe, op, kd, nu, co, cl, ap, rd, si, bg, ct, ls, hd, hk, hc, vl, tk, cn, lf, la, pc, yb, yh, yk, ho, vs, os, rfl, rfl, hM, hP, hSr, hS, hL, hC, hA⟩ := I
  by_cases h0 : v1 < 0
  · exact br_t h0 (br_t h0 ⟨rfl, I'⟩)
  · by_cases h8 : v1 ≤ 8
    · obtain ⟨tt, htt, rfl⟩ := nI_of2 (M := 8) (n := 8) (by decide) h0 h8
      obtain ⟨L, hL0, hL1, rfl⟩ := hM
      obtain ⟨m, hm, rfl⟩ := hSr
      obtain ⟨S, hS8, rfl, hSt⟩ := hS
      obtain ⟨P, hB⟩ := rb_0 (pn := pn) (wp := wp) (pt := pt) (sg := sg) (el := el) (rs := rs) (it := it) (le := le) (pe := pe) (op := op) (kd := kd) (nu := nu) (co := co) (cl := cl) (ap := ap) (rd := rd) (si := si) (bg := bg) (ct := ct) (ls := ls) (hd := hd) (hk := hk) (hc := hc) (vl := vl) (vv := vv) (vt := vt) (ot := ot) (br := br) (oc := oc) (tk := tk) (cn := cn) (lf := lf) (la := la) (pc := pc) (yb := yb) (yh := yh) (yk := yk) (ho := ho) (vs := vs) (os := os) (L := L) (m := m) hSt hS8
      obtain ⟨xa, hR, hN⟩ := xr_noth tt htt v2
      obtain ⟨res, ue, ve, j1, j2, j3⟩ := ru_loop hSt hL hS8 hL0 hL1 hm hP tt htt 100000 P 0 0 0 si xa (if nI tt = 7 then 1 else 0) _ _ (by omega) (by omega) hB hR (fun _ => rfl) ⟨0, by omega, rfl⟩ (fun z => absurd rfl z)
      have hX : ∀ post : Int64 → SX → Prop, post res ue → wpX_run post (nI L, pn, wp, nI m, nI S, se, fl, sp, en, pt, sg, el, rs, sn, it, le, pe, op, kd, nu, co, cl, ap, rd, si, bg, ct, ls, hd, hk, hc, vl) (nI tt) v2 := fun post h => by
        refine br_f h0 (br_t h8 (xr_start ?_))
        refine xr_most ?_
        exact hN _ ⟨100001, j2 post 100001 (by omega) h⟩
      have hY : ∀ post : Int64 → SY → Prop, post res ve → wpY_run post (nI L, nI m, nI S, wp, py, ya, se, fl, vv, vt, ot, ra, br, oc, it, le, tk, cn, kd, nu, lf, la, pc, yb, yh, yk, ho, ap, rd, si, vs, os) (nI tt) v2 := fun post h => by
        refine br_f h0 (br_t h8 (yr_begin ?_))
        have hW := j3 post 100001 (by omega) h
        have h55 : ∀ z : Int64, z = ru_B (nI tt) v2 → wY_run_55 post (nI tt) v2 z (nI L) (nI m) (nI S) wp 0 0 0 (-1) vv vt ot 1 br oc it le tk cn kd nu (zr_z lf 8) (zr_z la 8) (zr_z pc 8) (zr_z yb 8) yh yk (zr_z ho 8) (zr_z ap 8) (zr_z rd 3) si vs os := by
          intro z hz
          subst hz
          refine br_c (fun e7 => ?_) (fun n7 => ?_)
          · rw [if_pos e7] at hW; exact ⟨100001, hW⟩
          · rw [if_neg n7] at hW; exact ⟨100001, hW⟩
        refine br_c (fun e2 => h55 _ ?_) (fun n2 => br_c (fun e8 => br_c (fun hle => h55 _ ?_) (fun hn => h55 _ ?_)) (fun n8 => h55 _ ?_))
        · unfold ru_B; rw [if_pos e2, Int64.add_comm]
        · unfold ru_B
          rw [if_neg n2, if_pos e8]
          by_cases h16 : 16 ≤ v2
          · rw [if_pos h16]
            have : v2 = 16 := Int32.le_antisymm hle h16
            rw [this]; decide
          · rw [if_neg h16]
        · unfold ru_B
          rw [if_neg n2, if_pos e8, if_pos (Int32.le_of_lt (Int32.not_le.mp hn))]; decide
        · unfold ru_B; rw [if_neg n2, if_neg n8]
      exact hX _ (hY _ ⟨rfl, j1 _⟩)
    · exact br_f h0 (br_f h8 (br_f h0 (br_f h8 ⟨rfl, I'⟩)))
