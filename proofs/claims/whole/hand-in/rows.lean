section
theorem pk_us {f : Nat → Int32} {k : Nat} {x : Int32} : upd f k x k = x := if_pos rfl
theorem pk_un {f : Nat → Int32} {k j : Nat} {x : Int32} (h : j ≠ k) : upd f k x j = f j := if_neg h
theorem pk_sub {a b : Nat} (h : b ≤ a) : nI a - nI b = nI (a - b) := by
  obtain ⟨c, rfl⟩ : ∃ c, a = c + b := ⟨a - b, by omega⟩
  rw [← nI_add, Int32.add_sub_cancel, Nat.add_sub_cancel]
theorem pk_m1 (n : Nat) : nI (n + 1) + (-1) = nI n := by
  rw [← nI_1, Int32.add_assoc, show (1 : Int32) + (-1) = 0 from rfl, Int32.add_zero]
theorem pk_mul (a b : Nat) : nI a * nI b = nI (a * b) := (Int32.ofNat_mul a b).symm
theorem pk_ix (x : Int32) {n : Nat} (hn : n < 2 ^ 31) : x < 0 ∨ nI n ≤ x ∨ ∃ j : Nat, j < n ∧ x = nI j := by
  by_cases h : x < 0
  · exact Or.inl h
  · obtain ⟨j, hj, rfl⟩ := nI_of h
    by_cases h2 : j < n
    · exact Or.inr (Or.inr ⟨j, h2, rfl⟩)
    · exact Or.inr (Or.inl (nI_le (by omega) hj))
theorem pk_le {x y : Int32} {A B : Prop} (a b : Nat) (f : a ≤ b → A) (g : b < a → B) (hx : x = nI a := by rfl) (hy : y = nI b := by rfl) (ha : a < 2 ^ 31 := by omega) (hb : b < 2 ^ 31 := by omega) : (x ≤ y → A) ∧ (¬ x ≤ y → B) := by
  subst hx hy
  rw [nI_leI ha hb]
  exact ⟨f, fun z => g (by omega)⟩
theorem pk_lt {x y : Int32} {A B : Prop} (a b : Nat) (f : a < b → A) (g : b ≤ a → B) (hx : x = nI a := by rfl) (hy : y = nI b := by rfl) (ha : a < 2 ^ 31 := by omega) (hb : b < 2 ^ 31 := by omega) : (x < y → A) ∧ (¬ x < y → B) := by
  subst hx hy
  rw [nI_ltI ha hb]
  exact ⟨f, fun z => g (by omega)⟩
theorem pk_eq {x y : Int32} {A B : Prop} (a b : Nat) (f : a = b → A) (g : a ≠ b → B) (hx : x = nI a := by rfl) (hy : y = nI b := by rfl) (ha : a < 2 ^ 31 := by omega) (hb : b < 2 ^ 31 := by omega) : (x = y → A) ∧ (¬ x = y → B) := by
  subst hx hy
  rw [nI_eq ha hb]
  exact ⟨f, g⟩
theorem pk_in {x : Int32} (n N : Nat) (h : n < N) (hx : x = nI n := by rfl) (hN : N < 2 ^ 31 := by omega) : vp_in x N := by
  subst hx
  exact vp_in_nI h hN
theorem pk_cl {x : Int32} (n : Nat) (hx : x = nI n := by rfl) (h : n < 2 ^ 31 := by omega) : x.toNatClampNeg = n := by
  subst hx
  exact nI_clamp h
theorem pk_tn {n : Nat} (h : n < 2 ^ 32) : (nI n).toBitVec.toNat = n := Nat.mod_eq_of_lt h
theorem pk_lT {n : Nat} (h : n < 2 ^ 63) : (lN n).toInt = (n : Int) := lg_ofNat_toInt h
theorem pk_lLT {a b : Nat} (ha : a < 2 ^ 63) (hb : b < 2 ^ 63) : lN a < lN b ↔ a < b := by
  rw [Int64.lt_iff_toInt_lt, pk_lT ha, pk_lT hb]; omega
theorem pk_lLE {a b : Nat} (ha : a < 2 ^ 63) (hb : b < 2 ^ 63) : lN a ≤ lN b ↔ a ≤ b := by
  rw [Int64.le_iff_toInt_le, pk_lT ha, pk_lT hb]; omega
theorem pk_lEQ {a b : Nat} (ha : a < 2 ^ 63) (hb : b < 2 ^ 63) : lN a = lN b ↔ a = b := by
  rw [← Int64.toInt_inj, pk_lT ha, pk_lT hb]; omega
theorem pk_lOf {x : Int64} (h : ¬ x < 0) : ∃ k : Nat, k < 2 ^ 63 ∧ x = lN k := by
  rw [Int64.lt_iff_toInt_lt] at h
  have h0 : (0 : Int64).toInt = 0 := by decide
  have hx := Int64.toInt_lt x
  refine ⟨x.toInt.toNat, by omega, Int64.toInt_inj.mp ?_⟩
  rw [pk_lT (by omega)]
  omega
theorem ek_if {c d A B : Prop} (e : c ↔ d) (f : d → A) (g : ¬ d → B) : (c → A) ∧ (¬ c → B) :=
  ⟨fun z => f (e.mp z), fun z => g (fun y => z (e.mpr y))⟩
theorem ek_v {α : Sort _} {P : α → Prop} {a b : α} (e : a = b) (h : P b) : P a := e ▸ h
def bt (x : Int32) (i : Nat) : Bool := x.toBitVec.getLsbD i
theorem b_ext {x y : Int32} (h : ∀ i, i < 32 → bt x i = bt y i) : x = y := Int32.toBitVec_inj.mp (BitVec.eq_of_getLsbD_eq (fun i hi => h i hi))
theorem b_or (x y : Int32) (i : Nat) : bt (x ||| y) i = (bt x i || bt y i) := by unfold bt; rw [Int32.toBitVec_or, BitVec.getLsbD_or]
theorem b_and (x y : Int32) (i : Nat) : bt (x &&& y) i = (bt x i && bt y i) := by unfold bt; rw [Int32.toBitVec_and, BitVec.getLsbD_and]
theorem b_xor (x y : Int32) (i : Nat) : bt (x ^^^ y) i = (bt x i ^^ bt y i) := by unfold bt; rw [Int32.toBitVec_xor, BitVec.getLsbD_xor]
theorem b_big {x : Int32} {i : Nat} (h : 32 ≤ i) : bt x i = false := BitVec.getLsbD_of_ge _ _ h
theorem b_m1 : ∀ i, i < 32 → bt (-1) i = true := by decide +kernel
theorem b_0 (i : Nat) : bt 0 i = false := BitVec.getLsbD_zero
theorem s_l : ∀ n, n < 32 → ((nI n &&& 31).toBitVec.smod 32).toNat = n := by decide +kernel
theorem b_shl (n : Nat) (hn : n < 32) (x : Int32) {i : Nat} (hi : i < 32) : bt (x <<< (nI n &&& 31)) i = (decide (n ≤ i) && bt x (i - n)) := by
  unfold bt
  rw [Int32.toBitVec_shiftLeft]
  show (x.toBitVec <<< ((nI n &&& 31).toBitVec.smod 32).toNat).getLsbD i = _
  rw [s_l n hn, BitVec.getLsbD_shiftLeft]
  rcases Nat.lt_or_ge i n with h | h
  · simp [h, Nat.not_le.mpr h]
  · simp [hi, h, Nat.not_lt.mpr h]
end
section
/-! the pure picture of an expression: translation of the tokens into code behind operands, and the code's working out -/
theorem br_ite {c : Prop} [Decidable c] {α : Type} {post : α → Prop} {a b : α} {A B : Prop} (ha : c → post a → A) (hb : ¬ c → post b → B) (h : post (if c then a else b)) : (c → A) ∧ (¬ c → B) :=
  ⟨fun z => ha z (by rw [if_pos z] at h; exact h), fun z => hb z (by rw [if_neg z] at h; exact h)⟩
def ex_opd (t : Int32) : Bool := (decide (1 ≤ t) && decide (t ≤ 3)) || decide (1000 ≤ t)
def ex_bin (t : Int32) : Bool := t == 4 || t == 5 || t == 6 || t == 7 || t == 8 || t == 9 || t == 10 || t == 11
def ex_rk (t : Int32) : Nat := if t = 9 ∨ t = 10 then 1 else if t = 4 ∨ t = 5 ∨ t = 11 then 2 else if t = 6 ∨ t = 7 ∨ t = 8 then 3 else if t = 14 then 4 else 0
theorem ex_binC {t : Int32} (h : ex_bin t = true) : t = 4 ∨ t = 5 ∨ t = 6 ∨ t = 7 ∨ t = 8 ∨ t = 9 ∨ t = 10 ∨ t = 11 := by
  simp only [ex_bin, Bool.or_eq_true, beq_iff_eq] at h
  rcases h with ((((((h | h) | h) | h) | h) | h) | h) | h <;> simp [h]
/-- what may lie on the stack of operators -/
def ex_ok (t : Int32) : Prop := t = 12 ∨ t = 14 ∨ ex_bin t = true
def ex_pop (r : Nat) : List Int32 → List Int32 × List Int32
  | [] => ([], [])
  | o :: l => if r ≤ ex_rk o then (o :: (ex_pop r l).1, (ex_pop r l).2) else ([], o :: l)
def ex_step (t : Int32) (d : Bool) (ops code : List Int32) : Bool × List Int32 × List Int32 :=
  if ex_opd t = true then (false, ops, code ++ [t])
  else if t = 13 then (d, (ex_pop 1 ops).2.tail, code ++ (ex_pop 1 ops).1)
  else if t = 12 then (true, 12 :: ops, code)
  else if t = 5 ∧ d = true then (true, 14 :: ops, code)
  else (true, t :: (ex_pop (ex_rk t) ops).2, code ++ (ex_pop (ex_rk t) ops).1)
def ex_cs (tk : Nat → Int32) : Nat → Bool × List Int32 × List Int32
  | 0 => (true, [], [])
  | i + 1 => ex_step (tk i) (ex_cs tk i).1 (ex_cs tk i).2.1 (ex_cs tk i).2.2
def ex_code (tk : Nat → Int32) (n : Nat) : List Int32 := (ex_cs tk n).2.2 ++ (ex_pop 1 (ex_cs tk n).2.1).1
def ex_leg (t : Int32) (d : Bool) (ops : List Int32) : Prop :=
  (d = true → t = 12 ∨ t = 5 ∨ ex_opd t = true) ∧ (d = false → (t = 13 ∧ 12 ∈ ops) ∨ ex_bin t = true)
def ex_WF (tk : Nat → Int32) (n : Nat) : Prop :=
  (∀ i, i < n → ex_leg (tk i) (ex_cs tk i).1 (ex_cs tk i).2.1) ∧ (ex_cs tk n).1 = false ∧ 12 ∉ (ex_cs tk n).2.1
def ex_val (x y k t : Int32) : Int32 := if t = 1 then x else if t = 2 then y else if t = 3 then k else t - 1000
def ex_cmb (t a b : Int32) : Int32 := if t = 4 then a + b else if t = 5 then a - b else if t = 6 then a * b else if t = 7 then a / b else if t = 8 then a - a / b * b else if t = 9 then (if b ≤ a then 0 else 1) else if t = 10 then (if a = b then 1 else 0) else a &&& b
def ex_xs (x y k t : Int32) (st : List Int32 × Bool) : List Int32 × Bool :=
  if ex_opd t = true then (ex_val x y k t :: st.1, st.2)
  else if t = 14 then (match st.1 with | a :: r => ((-a) :: r, st.2) | [] => ([], st.2))
  else (match st.1 with | b :: a :: r => if (t = 7 ∨ t = 8) ∧ b = 0 then (ex_cmb t a 1 :: r, true) else (ex_cmb t a b :: r, st.2) | l => (l, st.2))
def ex_ev (x y k : Int32) (l : List Int32) : List Int32 × Bool := l.foldl (fun st t => ex_xs x y k t st) ([], false)
theorem ex_ev_app (x y k t : Int32) (l : List Int32) : ex_ev x y k (l ++ [t]) = ex_xs x y k t (ex_ev x y k l) := by
  simp [ex_ev, List.foldl_append]
/-- heights alone -/
def ex_fit : List Int32 → Nat → Prop
  | [], _ => True
  | t :: l, h => if ex_opd t = true then ex_fit l (h + 1) else if t = 14 then 1 ≤ h ∧ ex_fit l h else 2 ≤ h ∧ ex_fit l (h - 1)
def ex_hgt : List Int32 → Nat → Nat
  | [], h => h
  | t :: l, h => if ex_opd t = true then ex_hgt l (h + 1) else if t = 14 then ex_hgt l h else ex_hgt l (h - 1)
theorem ex_hgt_app : ∀ (l m : List Int32) (h : Nat), ex_hgt (l ++ m) h = ex_hgt m (ex_hgt l h)
  | [], m, h => rfl
  | t :: l, m, h => by
    simp only [List.cons_append, ex_hgt]
    split
    · exact ex_hgt_app l m _
    · split
      · exact ex_hgt_app l m _
      · exact ex_hgt_app l m _
theorem ex_fit_app : ∀ (l m : List Int32) (h : Nat), ex_fit l h → ex_fit m (ex_hgt l h) → ex_fit (l ++ m) h
  | [], m, h => fun _ b => b
  | t :: l, m, h => by
    simp only [List.cons_append, ex_fit, ex_hgt]
    split
    · exact ex_fit_app l m _
    · split
      · exact fun a b => ⟨a.1, ex_fit_app l m _ a.2 b⟩
      · exact fun a b => ⟨a.1, ex_fit_app l m _ a.2 b⟩
theorem ex_fit_l : ∀ (l m : List Int32) (h : Nat), ex_fit (l ++ m) h → ex_fit l h
  | [], m, h => fun _ => trivial
  | t :: l, m, h => by
    simp only [List.cons_append, ex_fit]
    split
    · exact ex_fit_l l m _
    · split
      · exact fun a => ⟨a.1, ex_fit_l l m _ a.2⟩
      · exact fun a => ⟨a.1, ex_fit_l l m _ a.2⟩
theorem ex_fit_r : ∀ (l m : List Int32) (h : Nat), ex_fit (l ++ m) h → ex_fit m (ex_hgt l h)
  | [], m, h => fun a => a
  | t :: l, m, h => by
    simp only [List.cons_append, ex_fit, ex_hgt]
    split
    · exact ex_fit_r l m _
    · split
      · exact fun a => ex_fit_r l m _ a.2
      · exact fun a => ex_fit_r l m _ a.2
theorem ex_hgt_le : ∀ (l : List Int32) (h : Nat), ex_hgt l h ≤ h + l.length
  | [], h => Nat.le_refl _
  | t :: l, h => by
    simp only [ex_hgt, List.length_cons]
    split
    · have := ex_hgt_le l (h + 1); omega
    · split
      · have := ex_hgt_le l h; omega
      · have := ex_hgt_le l (h - 1); omega
theorem ex_xs_len (x y k t : Int32) (st : List Int32 × Bool) (h : ex_fit [t] st.1.length) : (ex_xs x y k t st).1.length = ex_hgt [t] st.1.length := by
  obtain ⟨l, b⟩ := st
  simp only [ex_fit, ex_hgt, ex_xs] at *
  split
  · simp
  · rename_i h0
    rw [if_neg h0] at h
    split
    · rename_i h1
      rw [if_pos h1] at h
      cases l with
      | nil => simp at h
      | cons a r => simp
    · rename_i h1
      rw [if_neg h1] at h
      match l, h with
      | [], h => simp at h
      | [a], h => simp at h
      | a :: c :: r, h =>
        simp only
        split <;> simp
theorem ex_ev_snoc (x y k : Int32) (l m : List Int32) : ex_ev x y k (l ++ m) = m.foldl (fun st t => ex_xs x y k t st) (ex_ev x y k l) := by
  simp [ex_ev, List.foldl_append]
theorem ex_ev_len' (x y k : Int32) : ∀ (l : List Int32) (st : List Int32 × Bool), ex_fit l st.1.length → (l.foldl (fun st t => ex_xs x y k t st) st).1.length = ex_hgt l st.1.length
  | [], st => fun _ => rfl
  | t :: l, st => fun h => by
    have h1 : ex_fit [t] st.1.length := ex_fit_l [t] l _ h
    have h2 : ex_fit l (ex_hgt [t] st.1.length) := ex_fit_r [t] l _ h
    have e := ex_xs_len x y k t st h1
    rw [List.foldl_cons, ex_ev_len' x y k l _ (by rw [e]; exact h2), e, ← ex_hgt_app]
    rfl
theorem ex_ev_len (x y k : Int32) (l : List Int32) (h : ex_fit l 0) : (ex_ev x y k l).1.length = ex_hgt l 0 := ex_ev_len' x y k l ([], false) h
theorem ex_xs_br (x y k t : Int32) (st : List Int32 × Bool) (h : st.2 = true) : (ex_xs x y k t st).2 = true := by
  unfold ex_xs
  split
  · exact h
  · split
    · split <;> exact h
    · split
      · split
        · rfl
        · exact h
      · exact h
theorem ex_ev_br (x y k : Int32) : ∀ (l : List Int32) (st : List Int32 × Bool), st.2 = true → (l.foldl (fun st t => ex_xs x y k t st) st).2 = true
  | [], st => fun h => h
  | t :: l, st => fun h => ex_ev_br x y k l _ (ex_xs_br x y k t st h)
/-- numbers of the operators with two operands -/
def ex_nb (l : List Int32) : Nat := (l.filter ex_bin).length
theorem ex_nb_cons (t : Int32) (l : List Int32) : ex_nb (t :: l) = (if ex_bin t = true then 1 else 0) + ex_nb l := by
  unfold ex_nb
  rw [List.filter_cons]
  split <;> simp [Nat.add_comm]
theorem ex_bin_no {t : Int32} (h : ex_bin t = true) : ex_opd t = false ∧ t ≠ 14 ∧ t ≠ 12 ∧ t ≠ 13 ∧ 1 ≤ ex_rk t := by
  rcases ex_binC h with rfl | rfl | rfl | rfl | rfl | rfl | rfl | rfl <;> decide
theorem ex_pop_eq (r : Nat) : ∀ l : List Int32, (ex_pop r l).1 ++ (ex_pop r l).2 = l
  | [] => rfl
  | o :: l => by
    simp only [ex_pop]
    split
    · simp [ex_pop_eq r l]
    · rfl
theorem ex_pop_len (r : Nat) (l : List Int32) : (ex_pop r l).1.length + (ex_pop r l).2.length = l.length := by
  have := congrArg List.length (ex_pop_eq r l)
  rw [List.length_append] at this
  exact this
theorem ex_pop_rk (r : Nat) : ∀ l : List Int32, ∀ o, o ∈ (ex_pop r l).1 → r ≤ ex_rk o
  | [], o, h => by simp [ex_pop] at h
  | p :: l, o, h => by
    simp only [ex_pop] at h
    split at h
    · rename_i h1
      rcases List.mem_cons.mp h with h | h
      · rw [h]; exact h1
      · exact ex_pop_rk r l o h
    · simp at h
theorem ex_nb_app (l m : List Int32) : ex_nb (l ++ m) = ex_nb l + ex_nb m := by
  simp [ex_nb]
theorem ex_pop_nb (r : Nat) (l : List Int32) : ex_nb (ex_pop r l).1 + ex_nb (ex_pop r l).2 = ex_nb l := by
  rw [← ex_nb_app, ex_pop_eq]
/-- code that is operators alone -/
theorem ex_fit_ops : ∀ (p : List Int32) (h : Nat), (∀ o, o ∈ p → ex_ok o ∧ 1 ≤ ex_rk o) → ex_nb p + 1 ≤ h → ex_fit p h ∧ ex_hgt p h = h - ex_nb p
  | [], h => fun _ _ => ⟨trivial, rfl⟩
  | t :: l, h => fun H hh => by
    have h1 := H t (List.mem_cons_self ..)
    rw [ex_nb_cons] at hh ⊢
    have IH := ex_fit_ops l
    simp only [ex_fit, ex_hgt]
    rcases h1.1 with rfl | rfl | hb
    · exact absurd h1.2 (by decide)
    · have e : ex_opd 14 = false := by decide
      have e2 : ex_bin 14 = false := by decide
      simp only [e, e2, Bool.false_eq_true, if_false, if_true, Nat.zero_add] at hh ⊢
      have := IH h (fun o ho => H o (List.mem_cons_of_mem _ ho)) hh
      exact ⟨⟨by omega, this.1⟩, this.2⟩
    · obtain ⟨a, b, _⟩ := ex_bin_no hb
      simp only [a, b, hb, Bool.false_eq_true, if_false, if_true] at hh ⊢
      have := IH (h - 1) (fun o ho => H o (List.mem_cons_of_mem _ ho)) (by omega)
      exact ⟨⟨by omega, this.1⟩, by rw [this.2]; omega⟩
/-- what holds at every token of a right expression -/
def ex_inv (i : Nat) (d : Bool) (ops code : List Int32) : Prop :=
  (∀ o, o ∈ ops → ex_ok o) ∧ ex_fit code 0 ∧ ex_hgt code 0 = ex_nb ops + (if d = true then 0 else 1) ∧ code.length + ops.length ≤ i
theorem ex_inv_pop {i : Nat} {ops code : List Int32} (r : Nat) (hr : 1 ≤ r) (h : ex_inv i false ops code) :
    ex_inv i false (ex_pop r ops).2 (code ++ (ex_pop r ops).1) := by
  obtain ⟨h1, h2, h3, h4⟩ := h
  have hm : ∀ o, o ∈ (ex_pop r ops).1 → ex_ok o ∧ 1 ≤ ex_rk o := fun o ho =>
    ⟨h1 o (by rw [← ex_pop_eq r ops]; exact List.mem_append_left _ ho), Nat.le_trans hr (ex_pop_rk r ops o ho)⟩
  have hn := ex_pop_nb r ops
  simp only [Bool.false_eq_true, if_false] at h3
  have hf := ex_fit_ops (ex_pop r ops).1 (ex_hgt code 0) hm (by omega)
  refine ⟨fun o ho => h1 o (by rw [← ex_pop_eq r ops]; exact List.mem_append_right _ ho), ex_fit_app _ _ _ h2 hf.1, ?_, ?_⟩
  · rw [ex_hgt_app, hf.2, if_neg (by decide)]; omega
  · have := ex_pop_len r ops
    rw [List.length_append]; omega
theorem ex_pop_12 : ∀ l : List Int32, 12 ∈ l → ∃ m, (ex_pop 1 l).2 = 12 :: m ∨ ((ex_pop 1 l).2 ≠ [])
  | [], h => by simp at h
  | o :: l, h => by
    simp only [ex_pop]
    split
    · rename_i h1
      rcases List.mem_cons.mp h with h | h
      · subst h; exact absurd h1 (by decide)
      · exact ex_pop_12 l h
    · exact ⟨l, Or.inr (by simp)⟩
theorem ex_pop_head : ∀ l : List Int32, (∀ o, o ∈ l → ex_ok o) → ((ex_pop 1 l).2 = [] ∧ 12 ∉ l) ∨ (∃ m, (ex_pop 1 l).2 = 12 :: m)
  | [], _ => Or.inl ⟨rfl, by simp⟩
  | o :: l, h => by
    have ho := h o (List.mem_cons_self ..)
    have IH := ex_pop_head l (fun p hp => h p (List.mem_cons_of_mem _ hp))
    simp only [ex_pop]
    by_cases h1 : 1 ≤ ex_rk o
    · rw [if_pos h1]
      rcases IH with ⟨a, b⟩ | b
      · refine Or.inl ⟨a, fun hm => ?_⟩
        rcases List.mem_cons.mp hm with e | e
        · subst e; exact absurd h1 (by decide)
        · exact b e
      · exact Or.inr b
    · rw [if_neg h1]
      rcases ho with rfl | rfl | hb
      · exact Or.inr ⟨l, rfl⟩
      · exact absurd (by decide) h1
      · exact absurd (ex_bin_no hb).2.2.2.2 h1
theorem ex_inv_step {i : Nat} {t : Int32} {d : Bool} {ops code : List Int32} (h : ex_inv i d ops code) (hl : ex_leg t d ops) :
    ex_inv (i + 1) (ex_step t d ops code).1 (ex_step t d ops code).2.1 (ex_step t d ops code).2.2 := by
  cases d with
  | true =>
    obtain ⟨h1, h2, h3, h4⟩ := h
    simp only [if_true] at h3
    rcases hl.1 rfl with rfl | rfl | ho
    · refine ⟨?_, h2, ?_, ?_⟩
      · intro o hm
        rcases List.mem_cons.mp hm with e | e
        · exact Or.inl e
        · exact h1 o e
      · show ex_hgt code 0 = ex_nb (12 :: ops) + 0
        rw [ex_nb_cons, if_neg (by decide), h3]; omega
      · show code.length + (12 :: ops : List Int32).length ≤ i + 1
        rw [List.length_cons]; omega
    · refine ⟨?_, h2, ?_, ?_⟩
      · intro o hm
        rcases List.mem_cons.mp hm with e | e
        · exact Or.inr (Or.inl e)
        · exact h1 o e
      · show ex_hgt code 0 = ex_nb (14 :: ops) + 0
        rw [ex_nb_cons, if_neg (by decide), h3]; omega
      · show code.length + (14 :: ops : List Int32).length ≤ i + 1
        rw [List.length_cons]; omega
    · simp only [ex_step, ho, if_true]
      refine ⟨h1, ex_fit_app _ _ _ h2 (by simp [ex_fit, ho]), ?_, ?_⟩
      · rw [ex_hgt_app, h3]; simp [ex_hgt, ho]
      · rw [List.length_append]; simp; omega
  | false =>
    rcases hl.2 rfl with ⟨rfl, hm⟩ | hb
    · have hp := ex_inv_pop 1 (Nat.le_refl _) h
      have e : ex_step 13 false ops code = (false, (ex_pop 1 ops).2.tail, code ++ (ex_pop 1 ops).1) := by
        unfold ex_step
        rw [if_neg (by decide), if_pos rfl]
      rw [e]
      rcases ex_pop_head ops h.1 with ⟨_, b⟩ | ⟨m, hm2⟩
      · exact absurd hm b
      · rw [hm2] at hp ⊢
        obtain ⟨g1, g2, g3, g4⟩ := hp
        refine ⟨fun o ho => g1 o (List.mem_cons_of_mem _ ho), g2, ?_, ?_⟩
        · rw [g3, ex_nb_cons, if_neg (by decide)]
          simp
        · rw [List.length_cons] at g4
          simp only [List.tail_cons]
          omega
    · obtain ⟨a, b, c, d', e'⟩ := ex_bin_no hb
      have hp := ex_inv_pop (ex_rk t) e' h
      have e : ex_step t false ops code = (true, t :: (ex_pop (ex_rk t) ops).2, code ++ (ex_pop (ex_rk t) ops).1) := by
        unfold ex_step
        rw [if_neg (by simp [a]), if_neg d', if_neg c, if_neg (by simp)]
      rw [e]
      obtain ⟨g1, g2, g3, g4⟩ := hp
      refine ⟨?_, g2, ?_, ?_⟩
      · intro o hm
        rcases List.mem_cons.mp hm with e | e
        · rw [e]; exact Or.inr (Or.inr hb)
        · exact g1 o e
      · rw [g3, ex_nb_cons, if_pos hb]
        simp; omega
      · dsimp only
        rw [List.length_cons]; omega
theorem ex_inv_at {tk : Nat → Int32} {n : Nat} (h : ∀ i, i < n → ex_leg (tk i) (ex_cs tk i).1 (ex_cs tk i).2.1) :
    ∀ i, i ≤ n → ex_inv i (ex_cs tk i).1 (ex_cs tk i).2.1 (ex_cs tk i).2.2
  | 0, _ => ⟨fun o ho => by simp [ex_cs] at ho, trivial, rfl, Nat.le_refl _⟩
  | i + 1, hi => ex_inv_step (ex_inv_at h i (by omega)) (h i (by omega))
theorem ex_fin {tk : Nat → Int32} {n : Nat} (h : ex_WF tk n) : (ex_pop 1 (ex_cs tk n).2.1).2 = [] ∧ ex_inv n false [] (ex_code tk n) := by
  have h1 := ex_inv_at h.1 n (Nat.le_refl _)
  rw [h.2.1] at h1
  have h2 := ex_inv_pop 1 (Nat.le_refl _) h1
  rcases ex_pop_head _ h1.1 with ⟨a, _⟩ | ⟨m, hm⟩
  · rw [a] at h2
    exact ⟨a, h2⟩
  · exfalso
    apply h.2.2
    have := ex_pop_eq 1 (ex_cs tk n).2.1
    rw [hm] at this
    rw [← this]
    simp
end
section
/-! the component: translation and working out -/
def ex_stk (a : Nat → Int32) : List Int32 → Prop
  | [] => True
  | x :: l => a l.length = x ∧ ex_stk a l
theorem ex_stk_upd (a : Nat → Int32) (x : Int32) : ∀ (l : List Int32) (j : Nat), l.length ≤ j → ex_stk a l → ex_stk (upd a j x) l
  | [], _, _, _ => trivial
  | y :: l, j, hj, h => ⟨by rw [pk_un (by rw [List.length_cons] at hj; omega)]; exact h.1, ex_stk_upd a x l j (by rw [List.length_cons] at hj; omega) h.2⟩
theorem ex_stk_push (a : Nat → Int32) (x : Int32) (l : List Int32) (h : ex_stk a l) : ex_stk (upd a l.length x) (x :: l) :=
  ⟨pk_us, ex_stk_upd a x l _ (Nat.le_refl _) h⟩
theorem ex_stk_app (a : Nat → Int32) : ∀ (p l : List Int32), ex_stk a (p ++ l) → ex_stk a l
  | [], l, h => h
  | _ :: p, l, h => ex_stk_app a p l h.2
def ex_lay (a : Nat → Int32) (o : Nat) (l : List Int32) : Prop := ∀ i t, l[i]? = some t → a (o + i) = t
theorem ex_lay_app {a b : Nat → Int32} {o : Nat} {l : List Int32} {t : Int32} (h : ex_lay a o l) (hb : ∀ j, j < o + l.length → b j = a j) (ht : b (o + l.length) = t) : ex_lay b o (l ++ [t]) := by
  intro i u hu
  by_cases hi : i < l.length
  · rw [List.getElem?_append_left hi] at hu
    rw [hb _ (by omega)]
    exact h i u hu
  · rw [List.getElem?_append_right (by omega)] at hu
    have : i = l.length := by
      have := (List.getElem?_eq_some_iff.mp hu).1
      simp at this
      omega
    subst this
    simp at hu
    rw [ht, hu]
theorem ex_b01 (b : Bool) : ((if b = true then (1 : Int32) else 0) = 0) ↔ b = false := by cases b <;> decide
theorem xr_isOperand {post : Int32 → Prop} {t : Int32} (h : post (if ex_opd t = true then 1 else 0)) : wpX_isOperand post t := by
  have h10 : (¬ (1 ≤ t ∧ t ≤ 3)) → wX_isOperand_10 post t := by
    intro hn
    refine br_c (fun a => ?_) (fun a => ?_)
    · have : ex_opd t = false := by
        simp only [ex_opd, Bool.or_eq_false_iff, Bool.and_eq_false_iff, decide_eq_false_iff_not]
        refine ⟨?_, by rw [Int32.not_le]; exact a⟩
        by_cases h1 : 1 ≤ t
        · exact Or.inr (fun h2 => hn ⟨h1, h2⟩)
        · exact Or.inl h1
      rw [this] at h; exact h
    · have : ex_opd t = true := by
        simp only [ex_opd, Bool.or_eq_true, decide_eq_true_eq]
        exact Or.inr (Int32.not_lt.mp a)
      rw [this] at h; exact h
  refine br_c (fun a => h10 (fun z => absurd z.1 (Int32.not_le.mpr a))) (fun a => br_c (fun b => ?_) (fun b => h10 (fun z => b z.2)))
  have : ex_opd t = true := by
    simp only [ex_opd, Bool.or_eq_true, Bool.and_eq_true, decide_eq_true_eq]
    exact Or.inl ⟨Int32.not_lt.mp a, b⟩
  rw [this] at h; exact h
theorem ex_rk_out {t : Int32} (h : t < 4 ∨ 14 < t) : ex_rk t = 0 := by
  unfold ex_rk
  rcases h with h | h
  all_goals
    rw [if_neg (by rintro (rfl | rfl) <;> revert h <;> decide), if_neg (by rintro (rfl | rfl | rfl) <;> revert h <;> decide), if_neg (by rintro (rfl | rfl | rfl) <;> revert h <;> decide), if_neg (by rintro rfl; revert h; decide)]
theorem ex_rk_le (t : Int32) : ex_rk t ≤ 4 := by
  unfold ex_rk
  repeat' split
  all_goals omega
theorem xr_rank {post : Int32 → Prop} {t t' : Int32} (e : t' = t) (h : post (nI (ex_rk t))) : wpX_rank post t' := by
  subst e
  refine br_c (fun a => ?_) (fun a => br_c (fun b => ?_) (fun b => ?_))
  · rw [ex_rk_out (Or.inl a)] at h; exact h
  · rw [ex_rk_out (Or.inr b)] at h; exact h
  · refine br_c (fun c => ?_) (fun c => br_c (fun c => ?_) (fun c => br_c (fun c => ?_) (fun c => br_c (fun c => ?_) (fun c => br_c (fun c => ?_) (fun c => br_c (fun c => ?_) (fun c => br_c (fun c => ?_) (fun c => br_c (fun c => ?_) (fun c => br_c (fun c => ?_) (fun c => br_c (fun c => ?_) (fun c => br_c (fun c => ?_) (fun c => trivial)))))))))))
    all_goals (subst c; exact h)
section
variable {lm pn wp sr sc se fl sp pt sg el rs sn wy ya vv vt ot ra br : Int32} {en oc : Int64} {it le pe op kd nu co cl ap rd si bg ct ls hd hk hc vl tk cn lf la pc yb yh yk ho vs os : Nat → Int32}
theorem xr_addCode (s : Nat) (hs : s < 8) (m : Nat) (hm : m < 16) (hcl : cl s = nI m) (t : Int32) {post : SX → Prop} (h : post (lm, pn, wp, sr, sc, se, fl, sp, en, pt, sg, el, rs, sn, it, le, pe, op, kd, nu, upd co (16 * s + m) t, upd cl s (nI (m + 1)), ap, rd, si, bg, ct, ls, hd, hk, hc, vl)) : wpX_addCode post (lm, pn, wp, sr, sc, se, fl, sp, en, pt, sg, el, rs, sn, it, le, pe, op, kd, nu, co, cl, ap, rd, si, bg, ct, ls, hd, hk, hc, vl) (nI s) t := by
  have e1 : (nI s).toNatClampNeg = s := nI_clamp (by omega)
  have hi : vp_in (nI s) 8 := vp_in_nI hs (by omega)
  have e2 : nI s * 16 + cl (nI s).toNatClampNeg = nI (16 * s + m) := by
    rw [e1, hcl, show (16 : Int32) = nI 16 from rfl, pk_mul, nI_add]
    exact congrArg nI (by omega)
  refine ⟨hi, br_f ?_ ⟨hi, ?_, nm_r ?_ ⟨hi, hi, nm_r ?_ h⟩⟩⟩
  · rw [e1, hcl]; exact nI_ge (b := 16) hm (by decide)
  · rw [e2]; exact vp_in_nI (by omega) (by omega)
  · rw [e2, nI_clamp (by omega)]
  · rw [e1, hcl, nI_1]
theorem xr_addOps (s : Nat) (hs : s < 8) (r : Nat) (hr : r ≤ 4) (op : Nat → Int32) : ∀ (ops code : List Int32) (co cl : Nat → Int32), ex_stk op ops → ex_lay co (16 * s) code → cl s = nI code.length → code.length + ops.length ≤ 16 →
    ∃ co' cl' : Nat → Int32, ex_lay co' (16 * s) (code ++ (ex_pop r ops).1) ∧ cl' s = nI (code ++ (ex_pop r ops).1).length ∧ (∀ i, (i < 16 * s ∨ 16 * s + 16 ≤ i) → co' i = co i) ∧ (∀ t, t ≠ s → cl' t = cl t) ∧
      ∀ (post : Int32 → SX → Prop) (n : Nat), ops.length < n → post (nI (ex_pop r ops).2.length) (lm, pn, wp, sr, sc, se, fl, sp, en, pt, sg, el, rs, sn, it, le, pe, op, kd, nu, co', cl', ap, rd, si, bg, ct, ls, hd, hk, hc, vl) → wX_addOperators_3 post (nI s) (nI r) n (nI ops.length) lm pn wp sr sc se fl sp en pt sg el rs sn it le pe op kd nu co cl ap rd si bg ct ls hd hk hc vl := by
  intro ops
  induction ops with
  | nil =>
    intro code co cl h1 h2 h3 h4
    refine ⟨co, cl, by simpa [ex_pop] using h2, by simpa [ex_pop] using h3, fun _ _ => rfl, fun _ _ => rfl, fun post n hn h => ?_⟩
    obtain ⟨m, rfl⟩ : ∃ m, n = m + 1 := ⟨n - 1, by simp at hn; omega⟩
    exact br_t (show nI 0 ≤ 0 from by decide) h
  | cons o l IH =>
    intro code co cl h1 h2 h3 h4
    rw [List.length_cons] at h4
    have hin : vp_in (nI (l.length + 1) - 1) 16 := by rw [nI_pred]; exact vp_in_nI (by omega) (by omega)
    have ho : op (nI (l.length + 1) - 1).toNatClampNeg = o := by rw [nI_pred, nI_clamp (by omega)]; exact h1.1
    have hne : ¬ nI (l.length + 1) ≤ 0 := nI_nle (by omega) (by omega)
    have hrk := ex_rk_le o
    by_cases hk : r ≤ ex_rk o
    · obtain ⟨co', cl', g1, g2, g3, g4, g5⟩ := IH (code ++ [o]) (upd co (16 * s + code.length) o) (upd cl s (nI (code.length + 1))) h1.2
        (ex_lay_app h2 (fun j hj => pk_un (by omega)) pk_us) (by rw [pk_us, List.length_append]; rfl) (by rw [List.length_append]; simp; omega)
      have e : ex_pop r (o :: l) = (o :: (ex_pop r l).1, (ex_pop r l).2) := by simp only [ex_pop]; rw [if_pos hk]
      refine ⟨co', cl', ?_, ?_, ?_, ?_, fun post n hn h => ?_⟩
      · rw [e]; simpa using g1
      · rw [e, g2]; simp
      · intro i hi; rw [g3 i hi, pk_un (by omega)]
      · intro t ht; rw [g4 t ht, pk_un ht]
      · obtain ⟨m, rfl⟩ : ∃ m, n = m + 1 := ⟨n - 1, by simp at hn; omega⟩
        rw [e] at h
        refine br_f hne ⟨hin, xr_rank ho (br_f ?_ (nm_r (pk_m1 _) ⟨vp_in_nI (by omega) (by omega), ?_⟩))⟩
        · rw [nI_ltI (by omega) (by omega)]; omega
        · have e2 : op (nI l.length).toNatClampNeg = o := by rw [nI_clamp (by omega)]; exact h1.1
          rw [e2]
          exact xr_addCode s hs code.length (by omega) h3 o (g5 post m (by simp at hn; omega) h)
    · have e : ex_pop r (o :: l) = ([], o :: l) := by simp only [ex_pop]; rw [if_neg hk]
      refine ⟨co, cl, by rw [e]; simpa using h2, by rw [e]; simpa using h3, fun _ _ => rfl, fun _ _ => rfl, fun post n hn h => ?_⟩
      obtain ⟨m, rfl⟩ : ∃ m, n = m + 1 := ⟨n - 1, by simp at hn; omega⟩
      rw [e] at h
      refine br_f hne ⟨hin, xr_rank ho (br_t ?_ h)⟩
      rw [nI_ltI (by omega) (by omega)]; omega
theorem xr_tr148 (s N m i : Nat) (hm : m < 16) (t : Int32) {post : SX → Prop} {J : Int32 → Int32 → Int32 → Int32 → Int32 → Int32 → Int32 → Int32 → Int32 → Int32 → Int32 → Int64 → Int32 → Int32 → Int32 → Int32 → Int32 → (Nat → Int32) → (Nat → Int32) → (Nat → Int32) → (Nat → Int32) → (Nat → Int32) → (Nat → Int32) → (Nat → Int32) → (Nat → Int32) → (Nat → Int32) → (Nat → Int32) → (Nat → Int32) → (Nat → Int32) → (Nat → Int32) → (Nat → Int32) → (Nat → Int32) → (Nat → Int32) → (Nat → Int32) → (Nat → Int32) → Prop}
    (h : J 1 (nI (m + 1)) (nI (i + 1)) lm pn wp sr sc se fl sp en pt sg el rs sn it le pe (upd op m t) kd nu co cl ap rd si bg ct ls hd hk hc vl) : wX_translate_148 post J (nI s) (nI N) (nI m) (nI i) t lm pn wp sr sc se fl sp en pt sg el rs sn it le pe op kd nu co cl ap rd si bg ct ls hd hk hc vl :=
  ⟨vp_in_nI hm (by omega), nm_r (by rw [nI_clamp (by omega)]) (nm_r (nI_1 m) (nm_r (nI_1 i) h))⟩
theorem xr_trans (s : Nat) (hs : s < 8) (tk : Nat → Int32) (N : Nat) (hN : N ≤ 16) (hpe : ∀ i, i < N → pe i = tk i) (hl : ∀ i, i < N → ex_leg (tk i) (ex_cs tk i).1 (ex_cs tk i).2.1) :
    ∀ (k i : Nat), i + k = N → ∀ (op co cl : Nat → Int32), ex_stk op (ex_cs tk i).2.1 → ex_lay co (16 * s) (ex_cs tk i).2.2 → cl s = nI (ex_cs tk i).2.2.length →
    ∃ op' co' cl' : Nat → Int32, ex_lay co' (16 * s) (ex_code tk N) ∧ cl' s = nI (ex_code tk N).length ∧ (∀ i, (i < 16 * s ∨ 16 * s + 16 ≤ i) → co' i = co i) ∧ (∀ t, t ≠ s → cl' t = cl t) ∧
      ∀ (post : SX → Prop) (n : Nat), k < n → post (lm, pn, wp, sr, sc, se, fl, sp, en, pt, sg, el, rs, sn, it, le, pe, op', kd, nu, co', cl', ap, rd, si, bg, ct, ls, hd, hk, hc, vl) → wX_translate_15 post (nI s) (nI N) n (if (ex_cs tk i).1 = true then 1 else 0) (nI (ex_cs tk i).2.1.length) (nI i) lm pn wp sr sc se fl sp en pt sg el rs sn it le pe op kd nu co cl ap rd si bg ct ls hd hk hc vl := by
  intro k
  induction k with
  | zero =>
    intro i hi op co cl h1 h2 h3
    have : i = N := by omega
    subst this
    have hv := ex_inv_at hl i (Nat.le_refl _)
    obtain ⟨co', cl', g1, g2, g3, g4, g5⟩ := xr_addOps (lm := lm) (pn := pn) (wp := wp) (sr := sr) (sc := sc) (se := se) (fl := fl) (sp := sp) (pt := pt) (sg := sg) (el := el) (rs := rs) (sn := sn) (en := en) (it := it) (le := le) (pe := pe) (kd := kd) (nu := nu) (ap := ap) (rd := rd) (si := si) (bg := bg) (ct := ct) (ls := ls) (hd := hd) (hk := hk) (hc := hc) (vl := vl) s hs 1 (by omega) op _ _ co cl h1 h2 h3 (Nat.le_trans hv.2.2.2 hN)
    refine ⟨op, co', cl', g1, g2, g3, g4, fun post n hn h => ?_⟩
    obtain ⟨m, rfl⟩ : ∃ m, n = m + 1 := ⟨n - 1, by omega⟩
    exact br_t (Int32.le_refl _) ⟨_, g5 _ _ (Nat.lt_succ_self _) h⟩
  | succ k IH =>
    intro i hi op co cl h1 h2 h3
    have hiN : i < N := by omega
    have hv := ex_inv_at hl i (by omega)
    have hlg := hl i hiN
    have IH := IH (i + 1) (by omega)
    have hcs : ex_cs tk (i + 1) = ex_step (tk i) (ex_cs tk i).1 (ex_cs tk i).2.1 (ex_cs tk i).2.2 := rfl
    rw [hcs] at IH
    have hNi : ¬ nI N ≤ nI i := nI_ge hiN (by omega)
    have hin : vp_in (nI i) 16 := vp_in_nI (by omega) (by omega)
    have ht : pe (nI i).toNatClampNeg = tk i := by rw [nI_clamp (by omega)]; exact hpe i hiN
    generalize ex_cs tk i = c at *
    obtain ⟨d, ops, code⟩ := c
    dsimp only at *
    generalize tk i = t at *
    have hlen := hv.2.2.2
    by_cases ho : ex_opd t = true
    · -- an operand
      have e : ex_step t d ops code = (false, ops, code ++ [t]) := by unfold ex_step; rw [if_pos ho]
      rw [e] at IH
      obtain ⟨op', co', cl', g1, g2, g3, g4, g5⟩ := IH op (upd co (16 * s + code.length) t) (upd cl s (nI (code.length + 1))) h1
        (ex_lay_app h2 (fun j hj => pk_un (by omega)) pk_us) (by rw [pk_us, List.length_append]; rfl)
      refine ⟨op', co', cl', g1, g2, fun j hj => by rw [g3 j hj, pk_un (by omega)], fun u hu => by rw [g4 u hu, pk_un hu], fun post n hn h => ?_⟩
      obtain ⟨m, rfl⟩ : ∃ m, n = m + 1 := ⟨n - 1, by omega⟩
      refine br_f hNi ⟨hin, nm_r ht (xr_isOperand ?_)⟩
      rw [if_pos ho]
      exact br_f (by decide) (xr_addCode s hs code.length (by omega) h3 t (nm_r (nI_1 i) (g5 post m (by omega) h)))
    · have ho' : ex_opd t = false := by simpa using ho
      cases d with
      | true =>
        rcases hlg.1 rfl with rfl | rfl | hx
        · have e : ex_step 12 true ops code = (true, 12 :: ops, code) := by unfold ex_step; rw [if_neg ho, if_neg (by decide), if_pos rfl]
          rw [e] at IH
          obtain ⟨op', co', cl', g1, g2, g3, g4, g5⟩ := IH (upd op ops.length 12) co cl (ex_stk_push _ _ _ h1) h2 h3
          refine ⟨op', co', cl', g1, g2, g3, g4, fun post n hn h => ?_⟩
          obtain ⟨m, rfl⟩ : ∃ m, n = m + 1 := ⟨n - 1, by omega⟩
          refine br_f hNi ⟨hin, nm_r ht (xr_isOperand ?_)⟩
          rw [if_neg ho]
          exact br_t rfl (br_f (by decide) (br_f (by decide) (br_f (by decide) (br_t rfl (br_t rfl (xr_tr148 s N ops.length i (by omega) 12 (g5 post m (by omega) h)))))))
        · have e : ex_step 5 true ops code = (true, 14 :: ops, code) := by unfold ex_step; rw [if_neg ho, if_neg (by decide), if_neg (by decide), if_pos ⟨rfl, rfl⟩]
          rw [e] at IH
          obtain ⟨op', co', cl', g1, g2, g3, g4, g5⟩ := IH (upd op ops.length 14) co cl (ex_stk_push _ _ _ h1) h2 h3
          refine ⟨op', co', cl', g1, g2, g3, g4, fun post n hn h => ?_⟩
          obtain ⟨m, rfl⟩ : ∃ m, n = m + 1 := ⟨n - 1, by omega⟩
          refine br_f hNi ⟨hin, nm_r ht (xr_isOperand ?_)⟩
          rw [if_neg ho]
          exact br_t rfl (br_f (by decide) (br_t rfl (br_f (by simp) (br_t rfl (br_t rfl (xr_tr148 s N ops.length i (by omega) 14 (g5 post m (by omega) h)))))))
        · exact absurd hx ho
      | false =>
        rcases hlg.2 rfl with ⟨rfl, hm⟩ | hb
        · have e : ex_step 13 false ops code = (false, (ex_pop 1 ops).2.tail, code ++ (ex_pop 1 ops).1) := by
            unfold ex_step; rw [if_neg ho, if_pos rfl]
          rw [e] at IH
          obtain ⟨co1, cl1, f1, f2, f3, f4, f5⟩ := xr_addOps (lm := lm) (pn := pn) (wp := wp) (sr := sr) (sc := sc) (se := se) (fl := fl) (sp := sp) (pt := pt) (sg := sg) (el := el) (rs := rs) (sn := sn) (en := en) (it := it) (le := le) (pe := pe) (kd := kd) (nu := nu) (ap := ap) (rd := rd) (si := si) (bg := bg) (ct := ct) (ls := ls) (hd := hd) (hk := hk) (hc := hc) (vl := vl) s hs 1 (by omega) op ops code co cl h1 h2 h3 (by omega)
          have hst : ex_stk op (ex_pop 1 ops).2 := ex_stk_app op (ex_pop 1 ops).1 _ (by rw [ex_pop_eq]; exact h1)
          rcases ex_pop_head ops hv.1 with ⟨_, b⟩ | ⟨q, hq⟩
          · exact absurd hm b
          · rw [hq] at IH f5 hst
            obtain ⟨op', co', cl', g1, g2, g3, g4, g5⟩ := IH op co1 cl1 hst.2 f1 f2
            refine ⟨op', co', cl', g1, g2, fun j hj => by rw [g3 j hj, f3 j hj], fun u hu => by rw [g4 u hu, f4 u hu], fun post n hn h => ?_⟩
            obtain ⟨m, rfl⟩ : ∃ m, n = m + 1 := ⟨n - 1, by omega⟩
            refine br_f hNi ⟨hin, nm_r ht (xr_isOperand ?_)⟩
            rw [if_neg ho]
            refine br_t rfl (br_t rfl ⟨_, f5 _ _ (Nat.lt_succ_self _) (br_f (nI_nle (by simp) ?_) (nm_r (nI_pred _) (nm_r (nI_1 i) (g5 post m (by omega) h))))⟩)
            have := ex_pop_len 1 ops
            rw [hq] at this
            omega
        · obtain ⟨_, b2, b3, b4, b5⟩ := ex_bin_no hb
          have e : ex_step t false ops code = (true, t :: (ex_pop (ex_rk t) ops).2, code ++ (ex_pop (ex_rk t) ops).1) := by
            unfold ex_step; rw [if_neg ho, if_neg b4, if_neg b3, if_neg (by simp)]
          rw [e] at IH
          obtain ⟨co1, cl1, f1, f2, f3, f4, f5⟩ := xr_addOps (lm := lm) (pn := pn) (wp := wp) (sr := sr) (sc := sc) (se := se) (fl := fl) (sp := sp) (pt := pt) (sg := sg) (el := el) (rs := rs) (sn := sn) (en := en) (it := it) (le := le) (pe := pe) (kd := kd) (nu := nu) (ap := ap) (rd := rd) (si := si) (bg := bg) (ct := ct) (ls := ls) (hd := hd) (hk := hk) (hc := hc) (vl := vl) s hs (ex_rk t) (ex_rk_le t) op ops code co cl h1 h2 h3 (by omega)
          have hst : ex_stk op (ex_pop (ex_rk t) ops).2 := ex_stk_app op (ex_pop (ex_rk t) ops).1 _ (by rw [ex_pop_eq]; exact h1)
          have hpl := ex_pop_len (ex_rk t) ops
          obtain ⟨op', co', cl', g1, g2, g3, g4, g5⟩ := IH (upd op (ex_pop (ex_rk t) ops).2.length t) co1 cl1 (ex_stk_push _ _ _ hst) f1 f2
          refine ⟨op', co', cl', g1, g2, fun j hj => by rw [g3 j hj, f3 j hj], fun u hu => by rw [g4 u hu, f4 u hu], fun post n hn h => ?_⟩
          obtain ⟨m, rfl⟩ : ∃ m, n = m + 1 := ⟨n - 1, by omega⟩
          have hfin : wX_translate_100 post (wX_translate_15 post (nI s) (nI N) m) (nI s) (nI N) (nI ops.length) (nI i) t lm pn wp sr sc se fl sp en pt sg el rs sn it le pe op kd nu co cl ap rd si bg ct ls hd hk hc vl :=
            br_f b2 (br_f b3 (br_f (by decide) (xr_rank rfl ⟨_, f5 _ _ (Nat.lt_succ_self _) (xr_tr148 s N _ i (by omega) t (g5 post m (by omega) h))⟩)))
          refine br_f hNi ⟨hin, nm_r ht (xr_isOperand ?_)⟩
          rw [if_neg ho]
          exact br_t rfl (br_f b4 (br_c (fun _ => br_t rfl hfin) (fun _ => hfin)))
end
end
section
theorem ex_cmb_out {t a b : Int32} (h : t < 4 ∨ 10 < t) : ex_cmb t a b = a &&& b := by
  unfold ex_cmb
  rcases h with h | h
  all_goals
    rw [if_neg (by rintro rfl; revert h; decide), if_neg (by rintro rfl; revert h; decide), if_neg (by rintro rfl; revert h; decide), if_neg (by rintro rfl; revert h; decide), if_neg (by rintro rfl; revert h; decide), if_neg (by rintro rfl; revert h; decide), if_neg (by rintro rfl; revert h; decide)]
theorem xr_combine {post : Int32 → Prop} {t a b : Int32} (hz : t = 7 ∨ t = 8 → ¬ b = 0) (h : post (ex_cmb t a b)) : wpX_combine post t a b := by
  refine br_c (fun a => ?_) (fun a => br_c (fun b => ?_) (fun b => ?_))
  · rw [ex_cmb_out (Or.inl a)] at h; exact h
  · rw [ex_cmb_out (Or.inr b)] at h; exact h
  · refine br_c (fun c => ?_) (fun c => br_c (fun c => ?_) (fun c => br_c (fun c => ?_) (fun c => br_c (fun c => ?_) (fun c => br_c (fun c => ?_) (fun c => br_c (fun c => ?_) (fun c => br_c (fun c => ?_) (fun c => trivial)))))))
    · subst c; exact h
    · subst c; exact h
    · subst c; exact h
    · subst c; exact ⟨hz (Or.inl rfl), h⟩
    · subst c; exact ⟨hz (Or.inr rfl), h⟩
    · subst c; exact br_ite (fun _ z => z) (fun _ z => z) (show post (if _ ≤ _ then 0 else 1) from h)
    · subst c; exact br_ite (fun _ z => z) (fun _ z => z) (show post (if _ = _ then 1 else 0) from h)
section
variable {lm pn wp sr sc se fl sp pt sg el rs sn wy ya vv vt ot ra br : Int32} {en oc : Int64} {it le pe op kd nu co cl ap rd si bg ct ls hd hk hc vl tk cn lf la pc yb yh yk ho vs os : Nat → Int32}
theorem xr_apploop (s : Nat) (hs : s < 8) (x y k : Int32) (l : List Int32) (hl16 : l.length ≤ 16) (hfit : ex_fit l 0) (hlay : ex_lay co (16 * s) l) (h1g : ex_hgt l 0 = 1) :
    ∀ (r i : Nat), i + r = l.length → ∀ (vl : Nat → Int32), (ex_ev x y k (l.take i)).2 = false → ex_stk vl (ex_ev x y k (l.take i)).1 →
    ∃ vl' : Nat → Int32, ((ex_ev x y k l).2 = false ∧ ∀ (post : Int32 → SX → Prop) (n : Nat), r < n → post 1 (lm, pn, wp, sr, sc, se, fl, sp, en, pt, sg, el, (ex_ev x y k l).1.headD 0, sn, it, le, pe, op, kd, nu, co, cl, ap, rd, si, bg, ct, ls, hd, hk, hc, vl') → wX_applies_51 post (nI s) x y k (nI (16 * s + l.length)) lm pn wp sr sc se fl sp en pt sg el rs sn n (nI (ex_ev x y k (l.take i)).1.length) (nI (16 * s + i)) it le pe op kd nu co cl ap rd si bg ct ls hd hk hc vl) ∨
      ((ex_ev x y k l).2 = true ∧ ∀ (post : Int32 → SX → Prop) (n : Nat), r < n → post 0 (lm, pn, wp, sr, sc, se, nI s, sp, 9000000000000000002, pt, sg, el, rs, sn, it, le, pe, op, kd, nu, co, cl, ap, rd, si, bg, ct, ls, hd, hk, hc, vl') → wX_applies_51 post (nI s) x y k (nI (16 * s + l.length)) lm pn wp sr sc se fl sp en pt sg el rs sn n (nI (ex_ev x y k (l.take i)).1.length) (nI (16 * s + i)) it le pe op kd nu co cl ap rd si bg ct ls hd hk hc vl) := by
  intro r
  induction r with
  | zero =>
    intro i hi vl h1 h2
    have : i = l.length := by omega
    subst this
    rw [List.take_length] at *
    have hlen := ex_ev_len x y k l hfit
    refine ⟨vl, Or.inl ⟨h1, fun post n hn h => ?_⟩⟩
    obtain ⟨m, rfl⟩ : ∃ m, n = m + 1 := ⟨n - 1, by omega⟩
    refine br_t (Int32.le_refl _) (nm_r ?_ h)
    rw [h1g] at hlen
    generalize (ex_ev x y k l).1 = st at *
    match st, hlen, h2 with
    | [v], _, h2 => exact h2.1
  | succ r IH =>
    intro i hi vl h1 h2
    have hil : i < l.length := by omega
    have hgi : l[i]? = some l[i] := List.getElem?_eq_getElem hil
    have htk : l.take (i + 1) = l.take i ++ [l[i]] := by rw [List.take_succ, hgi]; rfl
    have hdr : l = l.take i ++ (l[i] :: l.drop (i + 1)) := by
      rw [List.getElem_cons_drop]; exact (List.take_append_drop i l).symm
    have hfa : ex_fit (l.take i) 0 := ex_fit_l _ _ _ (by rw [← hdr]; exact hfit)
    have hfb : ex_fit (l[i] :: l.drop (i + 1)) (ex_hgt (l.take i) 0) := ex_fit_r _ _ _ (by rw [← hdr]; exact hfit)
    have hlen := ex_ev_len x y k _ hfa
    have hle := ex_hgt_le (l.take i) 0
    have htl : (l.take i).length = i := by rw [List.length_take]; omega
    have hev : ex_ev x y k (l.take (i + 1)) = ex_xs x y k l[i] (ex_ev x y k (l.take i)) := by rw [htk, ex_ev_app]
    have hall : (ex_xs x y k l[i] (ex_ev x y k (l.take i))).2 = true → (ex_ev x y k l).2 = true := by
      intro hb
      have e : ex_ev x y k l = (l.drop (i + 1)).foldl (fun st t => ex_xs x y k t st) (ex_ev x y k (l.take (i + 1))) := by
        conv => lhs; rw [← List.take_append_drop (i + 1) l]
        rw [ex_ev_snoc]
      rw [e]
      exact ex_ev_br _ _ _ _ _ (by rw [hev]; exact hb)
    have hNi : ¬ nI (16 * s + l.length) ≤ nI (16 * s + i) := nI_ge (by omega) (by omega)
    have hin : vp_in (nI (16 * s + i)) 128 := vp_in_nI (by omega) (by omega)
    have ht : co (nI (16 * s + i)).toNatClampNeg = l[i] := by rw [nI_clamp (by omega)]; exact hlay i _ hgi
    have IH := IH (i + 1) (by omega)
    rw [hev] at IH
    rw [← hlen] at hfb hle
    generalize l[i] = t at *
    generalize ex_ev x y k (l.take i) = st at *
    obtain ⟨st, bb⟩ := st
    dsimp only at h1 h2 hlen hle hfb IH hall ⊢
    subst h1
    by_cases ho : ex_opd t = true
    · have e : ex_xs x y k t (st, false) = (ex_val x y k t :: st, false) := by unfold ex_xs; rw [if_pos ho]
      rw [e] at IH
      have hlt : st.length < 16 := by omega
      have hvi : vp_in (nI st.length) 16 := vp_in_nI hlt (by omega)
      obtain ⟨vl', g⟩ := IH (upd vl st.length (ex_val x y k t)) rfl (ex_stk_push _ _ _ h2)
      have hstep : ∀ (post : Int32 → SX → Prop) (m : Nat), wX_applies_51 post (nI s) x y k (nI (16 * s + l.length)) lm pn wp sr sc se fl sp en pt sg el rs sn m (nI (st.length + 1)) (nI (16 * s + i + 1)) it le pe op kd nu co cl ap rd si bg ct ls hd hk hc (upd vl st.length (ex_val x y k t)) → wX_applies_51 post (nI s) x y k (nI (16 * s + l.length)) lm pn wp sr sc se fl sp en pt sg el rs sn (m + 1) (nI st.length) (nI (16 * s + i)) it le pe op kd nu co cl ap rd si bg ct ls hd hk hc vl := by
        intro post m h
        refine br_f hNi ⟨hin, nm_r ht (xr_isOperand ?_)⟩
        rw [if_pos ho]
        have hcq : (nI st.length).toNatClampNeg = st.length := nI_clamp (by omega)
        refine br_f (by decide) (br_c (fun c => ?_) (fun c1 => br_c (fun c => ?_) (fun c2 => br_c (fun c => ?_) (fun c3 => ?_))))
        · subst c; exact ⟨hvi, nm_r (by rw [hcq]; rfl) (nm_r (nI_1 _) (nm_r (nI_1 _) h))⟩
        · subst c; exact ⟨hvi, nm_r (by rw [hcq]; rfl) (nm_r (nI_1 _) (nm_r (nI_1 _) h))⟩
        · subst c; exact ⟨hvi, nm_r (by rw [hcq]; rfl) (nm_r (nI_1 _) (nm_r (nI_1 _) h))⟩
        · exact ⟨hvi, nm_r (by rw [hcq]; unfold ex_val; rw [if_neg c1, if_neg c2, if_neg c3]) (nm_r (nI_1 _) (nm_r (nI_1 _) h))⟩
      refine ⟨vl', g.imp (fun g => ⟨g.1, fun post n hn h => ?_⟩) (fun g => ⟨g.1, fun post n hn h => ?_⟩)⟩
      all_goals
        obtain ⟨m, rfl⟩ : ∃ m, n = m + 1 := ⟨n - 1, by omega⟩
        exact hstep post m (g.2 post m (by omega) h)
    · have ho' : ex_opd t = false := by simpa using ho
      by_cases h14 : t = 14
      · subst h14
        simp only [ex_fit, ho', Bool.false_eq_true, if_false, if_true] at hfb
        match st, hfb, h2, hle, IH with
        | a :: q, hfb, h2, hle, IH =>
          have e : ex_xs x y k 14 (a :: q, false) = ((-a) :: q, false) := by unfold ex_xs; rw [if_neg ho, if_pos rfl]
          rw [e] at IH
          rw [List.length_cons] at hle
          obtain ⟨vl', g⟩ := IH (upd vl q.length (-a)) rfl (ex_stk_push _ _ _ h2.2)
          have hp : nI (q.length + 1) - 1 = nI q.length := nI_pred _
          have hvi : vp_in (nI (q.length + 1) - 1) 16 := by rw [hp]; exact vp_in_nI (by omega) (by omega)
          have hcq : (nI (q.length + 1) - 1).toNatClampNeg = q.length := by rw [hp, nI_clamp (by omega)]
          have hstep : ∀ (post : Int32 → SX → Prop) (m : Nat), wX_applies_51 post (nI s) x y k (nI (16 * s + l.length)) lm pn wp sr sc se fl sp en pt sg el rs sn m (nI (q.length + 1)) (nI (16 * s + i + 1)) it le pe op kd nu co cl ap rd si bg ct ls hd hk hc (upd vl q.length (-a)) → wX_applies_51 post (nI s) x y k (nI (16 * s + l.length)) lm pn wp sr sc se fl sp en pt sg el rs sn (m + 1) (nI (q.length + 1)) (nI (16 * s + i)) it le pe op kd nu co cl ap rd si bg ct ls hd hk hc vl := by
            intro post m h
            refine br_f hNi ⟨hin, nm_r ht (xr_isOperand ?_)⟩
            rw [if_neg ho]
            exact br_t rfl (br_t rfl ⟨hvi, hvi, nm_r (by rw [hcq, h2.1]) (nm_r (nI_1 _) h)⟩)
          refine ⟨vl', g.imp (fun g => ⟨g.1, fun post n hn h => ?_⟩) (fun g => ⟨g.1, fun post n hn h => ?_⟩)⟩
          all_goals
            obtain ⟨m, rfl⟩ : ∃ m, n = m + 1 := ⟨n - 1, by omega⟩
            exact hstep post m (g.2 post m (by omega) h)
      · simp only [ex_fit, ho', h14, Bool.false_eq_true, if_false] at hfb
        match st, hfb, h2, hle, IH, hall with
        | b :: a :: q, hfb, h2, hle, IH, hall =>
          rw [List.length_cons, List.length_cons] at hle
          have hb : vl (nI (q.length + 1)).toNatClampNeg = b := by rw [nI_clamp (by omega)]; exact h2.1
          have hvb : vp_in (nI (q.length + 1)) 16 := vp_in_nI (by omega) (by omega)
          by_cases hz : (t = 7 ∨ t = 8) ∧ b = 0
          · have e : (ex_xs x y k t (b :: a :: q, false)).2 = true := by
              unfold ex_xs; rw [if_neg ho, if_neg h14]; simp only; rw [if_pos hz]
            refine ⟨vl, Or.inr ⟨hall e, fun post n hn h => ?_⟩⟩
            obtain ⟨m, rfl⟩ : ∃ m, n = m + 1 := ⟨n - 1, by omega⟩
            refine br_f hNi ⟨hin, nm_r ht (xr_isOperand ?_)⟩
            rw [if_neg ho]
            refine br_t rfl (br_f h14 (nm_r (pk_m1 _) ⟨hvb, nm_r hb (br_t hz.2 ?_)⟩))
            rcases hz.1 with h7 | h8
            · exact br_t h7 h
            · exact br_c (fun _ => h) (fun _ => br_t h8 h)
          · have e : ex_xs x y k t (b :: a :: q, false) = (ex_cmb t a b :: q, false) := by
              unfold ex_xs; rw [if_neg ho, if_neg h14]; simp only; rw [if_neg hz]
            rw [e] at IH
            obtain ⟨vl', g⟩ := IH (upd vl q.length (ex_cmb t a b)) rfl (ex_stk_push _ _ _ h2.2.2)
            have hp : nI (q.length + 1) - 1 = nI q.length := nI_pred _
            have hvi : vp_in (nI (q.length + 1) - 1) 16 := by rw [hp]; exact vp_in_nI (by omega) (by omega)
            have hcq : (nI (q.length + 1) - 1).toNatClampNeg = q.length := by rw [hp, nI_clamp (by omega)]
            have hstep : ∀ (post : Int32 → SX → Prop) (m : Nat), wX_applies_51 post (nI s) x y k (nI (16 * s + l.length)) lm pn wp sr sc se fl sp en pt sg el rs sn m (nI (q.length + 1)) (nI (16 * s + i + 1)) it le pe op kd nu co cl ap rd si bg ct ls hd hk hc (upd vl q.length (ex_cmb t a b)) → wX_applies_51 post (nI s) x y k (nI (16 * s + l.length)) lm pn wp sr sc se fl sp en pt sg el rs sn (m + 1) (nI (q.length + 1 + 1)) (nI (16 * s + i)) it le pe op kd nu co cl ap rd si bg ct ls hd hk hc vl := by
              intro post m h
              refine br_f hNi ⟨hin, nm_r ht (xr_isOperand ?_)⟩
              rw [if_neg ho]
              have ha : vl (nI (q.length + 1) - 1).toNatClampNeg = a := by rw [hcq]; exact h2.2.1
              have h199 : wX_applies_199 post (wX_applies_51 post (nI s) x y k (nI (16 * s + l.length)) lm pn wp sr sc se fl sp en pt sg el rs sn m) (nI s) x y k (nI (16 * s + l.length)) (nI (q.length + 1)) (nI (16 * s + i)) t b lm pn wp sr sc se fl sp en pt sg el rs sn it le pe op kd nu co cl ap rd si bg ct ls hd hk hc vl := by
                refine ⟨hvi, ?_⟩
                rw [ha]
                refine xr_combine (fun h78 hb0 => hz ⟨h78, hb0⟩) ⟨hvi, nm_r ?_ (nm_r (nI_1 _) h)⟩
                rw [hcq]
              refine br_t rfl (br_f h14 (nm_r (pk_m1 _) ⟨hvb, nm_r hb (br_c (fun hb0 => ?_) (fun _ => h199))⟩))
              exact br_f (fun h7 => hz ⟨Or.inl h7, hb0⟩) (br_f (fun h8 => hz ⟨Or.inr h8, hb0⟩) h199)
            refine ⟨vl', g.imp (fun g => ⟨g.1, fun post n hn h => ?_⟩) (fun g => ⟨g.1, fun post n hn h => ?_⟩)⟩
            all_goals
              obtain ⟨m, rfl⟩ : ∃ m, n = m + 1 := ⟨n - 1, by omega⟩
              exact hstep post m (g.2 post m (by omega) h)
end
end
section
/-! the reference works an expression out along its tokens: the same steps -/
def ex_yo (o : Int32) : Int32 := if o = 14 then 20 else o
def ex_bi (b : Bool) : Int32 := if b = true then 1 else 0
def ex_fo (x y k : Int32) (p : List Int32) (st : List Int32 × Bool) : List Int32 × Bool := p.foldl (fun st t => ex_xs x y k t st) st
theorem ex_fo_cons (x y k o : Int32) (p : List Int32) (st : List Int32 × Bool) : ex_fo x y k (o :: p) st = ex_fo x y k p (ex_xs x y k o st) := rfl
theorem ex_yo_rk {o : Int32} (h : ex_ok o) {post : Int32 → Prop} (hp : post (nI (ex_rk o))) : wpY_level post (ex_yo o) := by
  rcases h with rfl | rfl | hb
  · exact br_f (by decide) (br_t (by decide) hp)
  · exact br_t (by decide) hp
  · rcases ex_binC hb with rfl | rfl | rfl | rfl | rfl | rfl | rfl | rfl
    · exact br_f (by decide) (br_f (by decide) (br_t (by decide) (br_f (by decide) (br_f (by decide) hp))))
    · exact br_f (by decide) (br_f (by decide) (br_t (by decide) (br_f (by decide) (br_f (by decide) hp))))
    · exact br_f (by decide) (br_f (by decide) (br_f (by decide) (br_f (by decide) hp)))
    · exact br_f (by decide) (br_f (by decide) (br_f (by decide) (br_f (by decide) hp)))
    · exact br_f (by decide) (br_f (by decide) (br_f (by decide) (br_f (by decide) hp)))
    · exact br_f (by decide) (br_f (by decide) (br_f (by decide) (br_t (by decide) (br_t (by decide) hp))))
    · exact br_f (by decide) (br_f (by decide) (br_f (by decide) (br_t (by decide) (br_f (by decide) (br_t (by decide) hp)))))
    · exact br_f (by decide) (br_f (by decide) (br_f (by decide) (br_t (by decide) (br_f (by decide) (br_f (by decide) hp)))))
theorem ex_lv {t : Int32} (h : ex_bin t = true) {post : Int32 → Prop} (hp : post (nI (ex_rk t))) : wpY_level post t := by
  have := ex_yo_rk (Or.inr (Or.inr h)) hp
  have e : ex_yo t = t := by unfold ex_yo; rw [if_neg (ex_bin_no h).2.1]
  rw [e] at this; exact this
section
variable {lm pn wp sr sc se fl sp pt sg el rs sn wy ya vv vt ot ra br : Int32} {en oc : Int64} {it le pe op kd nu co cl ap rd si bg ct ls hd hk hc vl tk cn lf la pc yb yh yk ho vs os : Nat → Int32}
theorem yr_w94 (q : Nat) (hq : q < 19) (t a b : Int32) (hb : ex_bin t = true) (hz : t = 7 ∨ t = 8 → ¬ b = 0) {post : SY → Prop} (h : post (lm, sr, sc, wy, sp, ya, se, fl, vv, nI (q + 1), ot, ra, br, oc, it, le, tk, cn, kd, nu, lf, la, pc, yb, yh, yk, ho, ap, rd, si, upd vs q (ex_cmb t a b), os)) : wY_work_94 post t b a lm sr sc wy sp ya se fl vv (nI (q + 1)) ot ra br oc it le tk cn kd nu lf la pc yb yh yk ho ap rd si vs os := by
  have hp : nI (q + 1) - 1 = nI q := nI_pred _
  have hvi : vp_in (nI (q + 1) - 1) 20 := by rw [hp]; exact vp_in_nI (by omega) (by omega)
  have hcq : (nI (q + 1) - 1).toNatClampNeg = q := by rw [hp, nI_clamp (by omega)]
  rcases ex_binC hb with rfl | rfl | rfl | rfl | rfl | rfl | rfl | rfl
  · exact br_t rfl ⟨hvi, nm_r (by rw [hcq]; rfl) h⟩
  · exact br_f (by decide) (br_t rfl ⟨hvi, nm_r (by rw [hcq]; rfl) h⟩)
  · exact br_f (by decide) (br_f (by decide) (br_t rfl ⟨hvi, nm_r (by rw [hcq]; rfl) h⟩))
  · exact br_f (by decide) (br_f (by decide) (br_f (by decide) (br_t rfl ⟨hz (Or.inl rfl), hvi, nm_r (by rw [hcq]; rfl) h⟩)))
  · exact br_f (by decide) (br_f (by decide) (br_f (by decide) (br_f (by decide) (br_t rfl ⟨hz (Or.inr rfl), hvi, nm_r (by rw [hcq]; rfl) h⟩))))
  · refine br_f (by decide) (br_f (by decide) (br_f (by decide) (br_f (by decide) (br_f (by decide) (br_t rfl (br_c (fun c => ⟨hvi, nm_r ?_ h⟩) (fun c => ⟨hvi, nm_r ?_ h⟩)))))))
    · rw [hcq, show ex_cmb 9 a b = (if b ≤ a then 0 else 1) from rfl, if_pos c]
    · rw [hcq, show ex_cmb 9 a b = (if b ≤ a then 0 else 1) from rfl, if_neg c]
  · refine br_f (by decide) (br_f (by decide) (br_f (by decide) (br_f (by decide) (br_f (by decide) (br_f (by decide) (br_t rfl (br_c (fun c => ⟨hvi, nm_r ?_ h⟩) (fun c => ⟨hvi, nm_r ?_ h⟩))))))))
    · rw [hcq, show ex_cmb 10 a b = (if a = b then 1 else 0) from rfl, if_pos c]
    · rw [hcq, show ex_cmb 10 a b = (if a = b then 1 else 0) from rfl, if_neg c]
  · exact br_f (by decide) (br_f (by decide) (br_f (by decide) (br_f (by decide) (br_f (by decide) (br_f (by decide) (br_f (by decide) ⟨hvi, nm_r (by rw [hcq]; rfl) h⟩))))))
theorem yr_work (x y k : Int32) (o : Int32) (m : Nat) (hm : m < 20) (st : List Int32) (b : Bool) (hst : st.length ≤ 20) (hok : o = 14 ∨ ex_bin o = true) (hos : os m = ex_yo o) (hvs : ex_stk vs st) (hfit : ex_fit [o] st.length) :
    ∃ vs' : Nat → Int32, ex_stk vs' (ex_xs x y k o (st, b)).1 ∧ ∀ post : SY → Prop, post (lm, sr, sc, wy, sp, ya, se, fl, vv, nI (ex_xs x y k o (st, b)).1.length, nI m, ra, ex_bi (ex_xs x y k o (st, b)).2, oc, it, le, tk, cn, kd, nu, lf, la, pc, yb, yh, yk, ho, ap, rd, si, vs', os) → wpY_work post (lm, sr, sc, wy, sp, ya, se, fl, vv, nI st.length, nI (m + 1), ra, ex_bi b, oc, it, le, tk, cn, kd, nu, lf, la, pc, yb, yh, yk, ho, ap, rd, si, vs, os) := by
  have hom : nI (m + 1) - 1 = nI m := nI_pred _
  have hov : vp_in (nI (m + 1) - 1) 20 := by rw [hom]; exact vp_in_nI hm (by omega)
  have hoe : os (nI (m + 1) - 1).toNatClampNeg = ex_yo o := by rw [hom, nI_clamp (by omega)]; exact hos
  rcases hok with rfl | hb
  · match st, hfit, hvs, hst with
    | [], hfit, _, _ => exact absurd hfit.1 (by decide)
    | a :: q, hfit, hvs, hst =>
      rw [List.length_cons] at hst
      refine ⟨upd vs q.length (-a), ex_stk_push _ _ _ hvs.2, fun post h => ?_⟩
      have hp : nI (q.length + 1) - 1 = nI q.length := nI_pred _
      have hvi : vp_in (nI (q.length + 1) - 1) 20 := by rw [hp]; exact vp_in_nI (by omega) (by omega)
      have hcq : (nI (q.length + 1) - 1).toNatClampNeg = q.length := by rw [hp, nI_clamp (by omega)]
      exact nm_r hom ⟨hov, nm_r hoe (nm_r hp ⟨hvi, nm_r (show vs (nI (q.length + 1) - 1).toNatClampNeg = a by rw [hcq]; exact hvs.1) (br_t (by decide) (nm_r (nI_1 _) ⟨vp_in_nI (by omega) (by omega), nm_r (by rw [nI_clamp (by omega)]) h⟩))⟩)⟩
  · obtain ⟨b1, b2, _⟩ := ex_bin_no hb
    simp only [ex_fit, b1, b2, Bool.false_eq_true, if_false] at hfit
    match st, hfit, hvs, hst with
    | [], hfit, _, _ => exact absurd hfit.1 (by decide)
    | [c], hfit, _, _ => exact absurd hfit.1 (by simp)
    | c :: a :: q, hfit, hvs, hst =>
      rw [List.length_cons, List.length_cons] at hst
      have eyo : ex_yo o = o := by unfold ex_yo; rw [if_neg b2]
      rw [eyo] at hoe
      have hp : nI (q.length + 1 + 1) - 1 = nI (q.length + 1) := nI_pred _
      have hp2 : nI (q.length + 1) - 1 = nI q.length := nI_pred _
      have hvi : vp_in (nI (q.length + 1 + 1) - 1) 20 := by rw [hp]; exact vp_in_nI (by omega) (by omega)
      have hvi2 : vp_in (nI (q.length + 1) - 1) 20 := by rw [hp2]; exact vp_in_nI (by omega) (by omega)
      have hvc : vs (nI (q.length + 1 + 1) - 1).toNatClampNeg = c := by rw [hp, nI_clamp (by omega)]; exact hvs.1
      have hva : vs (nI (q.length + 1) - 1).toNatClampNeg = a := by rw [hp2, nI_clamp (by omega)]; exact hvs.2.1
      have h20 : ¬ o = 20 := by intro e; rw [e] at hb; exact absurd hb (by decide)
      have hx : ex_xs x y k o (c :: a :: q, b) = if (o = 7 ∨ o = 8) ∧ c = 0 then (ex_cmb o a 1 :: q, true) else (ex_cmb o a c :: q, b) := by
        unfold ex_xs; rw [if_neg (by simp [b1]), if_neg b2]
      by_cases hz : (o = 7 ∨ o = 8) ∧ c = 0
      · rw [if_pos hz] at hx
        refine ⟨upd vs q.length (ex_cmb o a 1), by rw [hx]; exact ex_stk_push _ _ _ hvs.2.2, fun post h => ?_⟩
        rw [hx] at h
        have h83 : wY_work_83 post o c a lm sr sc wy sp ya se fl vv (nI (q.length + 1)) (nI m) ra (ex_bi b) oc it le tk cn kd nu lf la pc yb yh yk ho ap rd si vs os :=
          br_t hz.2 (yr_w94 q.length (by omega) o a 1 hb (fun _ => by decide) h)
        refine nm_r hom ⟨hov, nm_r hoe (nm_r hp ⟨hvi, nm_r hvc (br_f h20 ⟨hvi2, nm_r hva ?_⟩)⟩)⟩
        rcases hz.1 with h7 | h8
        · exact br_t h7 h83
        · exact br_c (fun _ => h83) (fun _ => br_t h8 h83)
      · rw [if_neg hz] at hx
        refine ⟨upd vs q.length (ex_cmb o a c), by rw [hx]; exact ex_stk_push _ _ _ hvs.2.2, fun post h => ?_⟩
        rw [hx] at h
        have h94 : wY_work_94 post o c a lm sr sc wy sp ya se fl vv (nI (q.length + 1)) (nI m) ra (ex_bi b) oc it le tk cn kd nu lf la pc yb yh yk ho ap rd si vs os :=
          yr_w94 q.length (by omega) o a c hb (fun h78 hc0 => hz ⟨h78, hc0⟩) h
        refine nm_r hom ⟨hov, nm_r hoe (nm_r hp ⟨hvi, nm_r hvc (br_f h20 ⟨hvi2, nm_r hva ?_⟩)⟩)⟩
        exact br_c (fun h7 => br_f (fun hc0 => hz ⟨Or.inl h7, hc0⟩) h94) (fun _ => br_c (fun h8 => br_f (fun hc0 => hz ⟨Or.inr h8, hc0⟩) h94) (fun _ => h94))
end
end
section
theorem ex_yo_rk' {o t' : Int32} (e : t' = ex_yo o) (h : ex_ok o) {post : Int32 → Prop} (hp : post (nI (ex_rk o))) : wpY_level post t' := by
  rw [e]; exact ex_yo_rk h hp
theorem ex_yo12 {o : Int32} (h : ex_ok o) : (ex_yo o = 12 ↔ o = 12) := by
  rcases h with rfl | rfl | hb
  · decide
  · decide
  · obtain ⟨_, b2, b3, _⟩ := ex_bin_no hb
    unfold ex_yo; rw [if_neg b2]
theorem ex_rk1 {o : Int32} (h : ex_ok o) : 1 ≤ ex_rk o ↔ o ≠ 12 := by
  rcases h with rfl | rfl | hb
  · decide
  · decide
  · obtain ⟨_, b2, b3, _, b5⟩ := ex_bin_no hb
    exact ⟨fun _ => b3, fun _ => b5⟩
theorem ex_okn {o : Int32} (h : ex_ok o) (h1 : 1 ≤ ex_rk o) : o = 14 ∨ ex_bin o = true := by
  rcases h with h | h
  · exact absurd h ((ex_rk1 (Or.inl h)).mp h1)
  · exact h
theorem ex_len_xs (x y k o : Int32) (st : List Int32) (b : Bool) (h1 : o = 14 ∨ ex_bin o = true) (h : ex_fit [o] st.length) : (ex_xs x y k o (st, b)).1.length ≤ st.length ∧ (ex_xs x y k o (st, b)).1.length = ex_hgt [o] st.length := by
  have e := ex_xs_len x y k o (st, b) h
  refine ⟨?_, e⟩
  rw [e]
  have : ex_opd o = false := by
    rcases h1 with rfl | hb
    · decide
    · exact (ex_bin_no hb).1
  simp only [ex_hgt, this, Bool.false_eq_true, if_false]
  split <;> omega
section
variable {lm pn wp sr sc se fl sp pt sg el rs sn wy ya vv vt ot ra br : Int32} {en oc : Int64} {it le pe op kd nu co cl ap rd si bg ct ls hd hk hc vl tk cn lf la pc yb yh yk ho vs os : Nat → Int32}
theorem yr_217 (x y k x1 x6 t : Int32) (ht : ex_bin t = true) : ∀ (ops st : List Int32) (b : Bool) (vs : Nat → Int32), (∀ o, o ∈ ops → ex_ok o) → ops.length ≤ 16 → st.length ≤ 16 → ex_stk os (ops.map ex_yo) → ex_stk vs st → ex_fit (ex_pop (ex_rk t) ops).1 st.length →
    ∃ vs' : Nat → Int32, ex_stk vs' (ex_fo x y k (ex_pop (ex_rk t) ops).1 (st, b)).1 ∧ ∀ (J : (Int32 → Int32 → Int32 → Int32 → Int32 → Int32 → Int32 → Int32 → Int32 → Int32 → Int32 → Int32 → Int32 → Int32 → Int32 → Int64 → (Nat → Int32) → (Nat → Int32) → (Nat → Int32) → (Nat → Int32) → (Nat → Int32) → (Nat → Int32) → (Nat → Int32) → (Nat → Int32) → (Nat → Int32) → (Nat → Int32) → (Nat → Int32) → (Nat → Int32) → (Nat → Int32) → (Nat → Int32) → (Nat → Int32) → (Nat → Int32) → (Nat → Int32) → (Nat → Int32) → Prop)) (post : Int32 → SY → Prop) (n : Nat), ops.length < n → wY_value_253 post J x1 x y k x6 t lm sr sc wy sp ya se fl vv (nI (ex_fo x y k (ex_pop (ex_rk t) ops).1 (st, b)).1.length) (nI (ex_pop (ex_rk t) ops).2.length) ra (ex_bi (ex_fo x y k (ex_pop (ex_rk t) ops).1 (st, b)).2) oc it le tk cn kd nu lf la pc yb yh yk ho ap rd si vs' os → wY_value_217 post J x1 x y k x6 t n lm sr sc wy sp ya se fl vv (nI st.length) (nI ops.length) ra (ex_bi b) oc it le tk cn kd nu lf la pc yb yh yk ho ap rd si vs os := by
  intro ops
  induction ops with
  | nil =>
    intro st b vs _ _ _ _ h5 _
    refine ⟨vs, h5, fun J post n hn h => ?_⟩
    obtain ⟨m, rfl⟩ : ∃ m, n = m + 1 := ⟨n - 1, by simp at hn; omega⟩
    exact br_t (show nI 0 ≤ 0 from by decide) h
  | cons o l IH =>
    intro st b vs h1 h2 h3 h4 h5 h6
    rw [List.length_cons] at h2
    have hok := h1 o (List.mem_cons_self ..)
    have hom : nI (l.length + 1) - 1 = nI l.length := nI_pred _
    have hov : vp_in (nI (l.length + 1) - 1) 20 := by rw [hom]; exact vp_in_nI (by omega) (by omega)
    have hos : os l.length = ex_yo o := by have := h4.1; rw [List.length_map] at this; exact this
    have hoe : os (nI (l.length + 1) - 1).toNatClampNeg = ex_yo o := by rw [hom, nI_clamp (by omega)]; exact hos
    have hne : ¬ nI (l.length + 1) ≤ 0 := nI_nle (by omega) (by omega)
    have hr1 := ex_rk_le o
    have hr2 := ex_rk_le t
    by_cases hq : ex_rk t ≤ ex_rk o
    · have e : ex_pop (ex_rk t) (o :: l) = (o :: (ex_pop (ex_rk t) l).1, (ex_pop (ex_rk t) l).2) := by simp only [ex_pop]; rw [if_pos hq]
      rw [e] at h6 ⊢
      dsimp only at h6 ⊢
      have hon := ex_okn hok (Nat.le_trans (ex_bin_no ht).2.2.2.2 hq)
      have hf1 : ex_fit [o] st.length := ex_fit_l [o] _ _ h6
      have hf2 := ex_fit_r [o] _ _ h6
      have hxl := ex_len_xs x y k o st b hon hf1
      obtain ⟨vs1, w1, w2⟩ := yr_work (lm := lm) (sr := sr) (sc := sc) (wy := wy) (sp := sp) (ya := ya) (se := se) (fl := fl) (vv := vv) (ra := ra) (oc := oc) (it := it) (le := le) (tk := tk) (cn := cn) (kd := kd) (nu := nu) (lf := lf) (la := la) (pc := pc) (yb := yb) (yh := yh) (yk := yk) (ho := ho) (ap := ap) (rd := rd) (si := si) (os := os) (vs := vs) x y k o l.length (by omega) st b (by omega) hon hos h5 hf1
      obtain ⟨vs', g1, g2⟩ := IH (ex_xs x y k o (st, b)).1 (ex_xs x y k o (st, b)).2 vs1 (fun p hp => h1 p (List.mem_cons_of_mem _ hp)) (by omega) (by omega) h4.2 w1 (by rw [hxl.2]; exact hf2)
      refine ⟨vs', g1, fun J post n hn h => ?_⟩
      obtain ⟨m, rfl⟩ : ∃ m, n = m + 1 := ⟨n - 1, by omega⟩
      refine br_f hne ⟨hov, ex_yo_rk' hoe hok (ex_lv ht (br_f ?_ (w2 _ (g2 J post m (by simp at hn; omega) h))))⟩
      rw [nI_ltI (by omega) (by omega)]; omega
    · have e : ex_pop (ex_rk t) (o :: l) = ([], o :: l) := by simp only [ex_pop]; rw [if_neg hq]
      rw [e]
      refine ⟨vs, h5, fun J post n hn h => ?_⟩
      obtain ⟨m, rfl⟩ : ∃ m, n = m + 1 := ⟨n - 1, by omega⟩
      refine br_f hne ⟨hov, ex_yo_rk' hoe hok (ex_lv ht (br_t ?_ h))⟩
      rw [nI_ltI (by omega) (by omega)]; omega
theorem yr_181 (x y k x1 x5 : Int32) (i : Nat) (q : List Int32) : ∀ (ops st : List Int32) (b : Bool) (vs : Nat → Int32), (ex_pop 1 ops).2 = 12 :: q → (∀ o, o ∈ ops → ex_ok o) → ops.length ≤ 16 → st.length ≤ 16 → ex_stk os (ops.map ex_yo) → ex_stk vs st → ex_fit (ex_pop 1 ops).1 st.length →
    ∃ vs' : Nat → Int32, ex_stk vs' (ex_fo x y k (ex_pop 1 ops).1 (st, b)).1 ∧ ∀ (J : (Int32 → Int32 → Int32 → Int32 → Int32 → Int32 → Int32 → Int32 → Int32 → Int32 → Int32 → Int32 → Int32 → Int32 → Int32 → Int64 → (Nat → Int32) → (Nat → Int32) → (Nat → Int32) → (Nat → Int32) → (Nat → Int32) → (Nat → Int32) → (Nat → Int32) → (Nat → Int32) → (Nat → Int32) → (Nat → Int32) → (Nat → Int32) → (Nat → Int32) → (Nat → Int32) → (Nat → Int32) → (Nat → Int32) → (Nat → Int32) → (Nat → Int32) → (Nat → Int32) → Prop)) (post : Int32 → SY → Prop) (n : Nat), ops.length < n → J x5 (nI (i + 1)) lm sr sc wy sp ya se fl vv (nI (ex_fo x y k (ex_pop 1 ops).1 (st, b)).1.length) (nI q.length) ra (ex_bi (ex_fo x y k (ex_pop 1 ops).1 (st, b)).2) oc it le tk cn kd nu lf la pc yb yh yk ho ap rd si vs' os → wY_value_181 post J x1 x y k x5 (nI i) n lm sr sc wy sp ya se fl vv (nI st.length) (nI ops.length) ra (ex_bi b) oc it le tk cn kd nu lf la pc yb yh yk ho ap rd si vs os := by
  intro ops
  induction ops with
  | nil =>
    intro st b vs h0
    exact absurd h0 (by simp [ex_pop])
  | cons o l IH =>
    intro st b vs h0 h1 h2 h3 h4 h5 h6
    rw [List.length_cons] at h2
    have hok := h1 o (List.mem_cons_self ..)
    have hom : nI (l.length + 1) - 1 = nI l.length := nI_pred _
    have hov : vp_in (nI (l.length + 1) - 1) 20 := by rw [hom]; exact vp_in_nI (by omega) (by omega)
    have hos : os l.length = ex_yo o := by have := h4.1; rw [List.length_map] at this; exact this
    have hoe : os (nI (l.length + 1) - 1).toNatClampNeg = ex_yo o := by rw [hom, nI_clamp (by omega)]; exact hos
    by_cases hq : 1 ≤ ex_rk o
    · have e : ex_pop 1 (o :: l) = (o :: (ex_pop 1 l).1, (ex_pop 1 l).2) := by simp only [ex_pop]; rw [if_pos hq]
      rw [e] at h0 h6 ⊢
      dsimp only at h0 h6 ⊢
      have hon := ex_okn hok hq
      have hf1 : ex_fit [o] st.length := ex_fit_l [o] _ _ h6
      have hf2 := ex_fit_r [o] _ _ h6
      have hxl := ex_len_xs x y k o st b hon hf1
      obtain ⟨vs1, w1, w2⟩ := yr_work (lm := lm) (sr := sr) (sc := sc) (wy := wy) (sp := sp) (ya := ya) (se := se) (fl := fl) (vv := vv) (ra := ra) (oc := oc) (it := it) (le := le) (tk := tk) (cn := cn) (kd := kd) (nu := nu) (lf := lf) (la := la) (pc := pc) (yb := yb) (yh := yh) (yk := yk) (ho := ho) (ap := ap) (rd := rd) (si := si) (os := os) (vs := vs) x y k o l.length (by omega) st b (by omega) hon hos h5 hf1
      obtain ⟨vs', g1, g2⟩ := IH (ex_xs x y k o (st, b)).1 (ex_xs x y k o (st, b)).2 vs1 h0 (fun p hp => h1 p (List.mem_cons_of_mem _ hp)) (by omega) (by omega) h4.2 w1 (by rw [hxl.2]; exact hf2)
      refine ⟨vs', g1, fun J post n hn h => ?_⟩
      obtain ⟨m, rfl⟩ : ∃ m, n = m + 1 := ⟨n - 1, by omega⟩
      refine ⟨hov, br_f ?_ (w2 _ (g2 J post m (by simp at hn; omega) h))⟩
      rw [List.length_cons, hoe, ex_yo12 hok]; exact (ex_rk1 hok).mp hq
    · have e : ex_pop 1 (o :: l) = ([], o :: l) := by simp only [ex_pop]; rw [if_neg hq]
      rw [e] at h0 ⊢
      have h12 : o = 12 := by
        apply Classical.byContradiction
        intro z
        exact hq ((ex_rk1 hok).mpr z)
      have hl : l = q := by injection h0
      refine ⟨vs, h5, fun J post n hn h => ?_⟩
      obtain ⟨m, rfl⟩ : ∃ m, n = m + 1 := ⟨n - 1, by omega⟩
      subst hl
      refine ⟨hov, br_t ?_ (nm_r hom (nm_r (nI_1 _) h))⟩
      rw [List.length_cons, hoe, ex_yo12 hok]; exact h12
theorem yr_280 (x y k : Int32) : ∀ (ops st : List Int32) (b : Bool) (vs : Nat → Int32), (ex_pop 1 ops).2 = [] → (∀ o, o ∈ ops → ex_ok o) → ops.length ≤ 16 → st.length ≤ 16 → ex_stk os (ops.map ex_yo) → ex_stk vs st → ex_fit (ex_pop 1 ops).1 st.length →
    ∃ vs' : Nat → Int32, ex_stk vs' (ex_fo x y k (ex_pop 1 ops).1 (st, b)).1 ∧ ∀ (post : Int32 → SY → Prop) (n : Nat), ops.length < n → post (vs' 0) (lm, sr, sc, wy, sp, ya, se, fl, vv, nI (ex_fo x y k (ex_pop 1 ops).1 (st, b)).1.length, 0, ra, ex_bi (ex_fo x y k (ex_pop 1 ops).1 (st, b)).2, oc, it, le, tk, cn, kd, nu, lf, la, pc, yb, yh, yk, ho, ap, rd, si, vs', os) → wY_value_280 post n lm sr sc wy sp ya se fl vv (nI st.length) (nI ops.length) ra (ex_bi b) oc it le tk cn kd nu lf la pc yb yh yk ho ap rd si vs os := by
  intro ops
  induction ops with
  | nil =>
    intro st b vs _ _ _ _ _ h5 _
    refine ⟨vs, h5, fun post n hn h => ?_⟩
    obtain ⟨m, rfl⟩ : ∃ m, n = m + 1 := ⟨n - 1, by simp at hn; omega⟩
    exact br_t (show nI 0 ≤ 0 from by decide) h
  | cons o l IH =>
    intro st b vs h0 h1 h2 h3 h4 h5 h6
    rw [List.length_cons] at h2
    have hok := h1 o (List.mem_cons_self ..)
    have hos : os l.length = ex_yo o := by have := h4.1; rw [List.length_map] at this; exact this
    have hne : ¬ nI (l.length + 1) ≤ 0 := nI_nle (by omega) (by omega)
    by_cases hq : 1 ≤ ex_rk o
    · have e : ex_pop 1 (o :: l) = (o :: (ex_pop 1 l).1, (ex_pop 1 l).2) := by simp only [ex_pop]; rw [if_pos hq]
      rw [e] at h0 h6 ⊢
      dsimp only at h0 h6 ⊢
      have hon := ex_okn hok hq
      have hf1 : ex_fit [o] st.length := ex_fit_l [o] _ _ h6
      have hf2 := ex_fit_r [o] _ _ h6
      have hxl := ex_len_xs x y k o st b hon hf1
      obtain ⟨vs1, w1, w2⟩ := yr_work (lm := lm) (sr := sr) (sc := sc) (wy := wy) (sp := sp) (ya := ya) (se := se) (fl := fl) (vv := vv) (ra := ra) (oc := oc) (it := it) (le := le) (tk := tk) (cn := cn) (kd := kd) (nu := nu) (lf := lf) (la := la) (pc := pc) (yb := yb) (yh := yh) (yk := yk) (ho := ho) (ap := ap) (rd := rd) (si := si) (os := os) (vs := vs) x y k o l.length (by omega) st b (by omega) hon hos h5 hf1
      obtain ⟨vs', g1, g2⟩ := IH (ex_xs x y k o (st, b)).1 (ex_xs x y k o (st, b)).2 vs1 h0 (fun p hp => h1 p (List.mem_cons_of_mem _ hp)) (by omega) (by omega) h4.2 w1 (by rw [hxl.2]; exact hf2)
      refine ⟨vs', g1, fun post n hn h => ?_⟩
      obtain ⟨m, rfl⟩ : ∃ m, n = m + 1 := ⟨n - 1, by omega⟩
      exact br_f hne (w2 _ (g2 post m (by simp at hn; omega) h))
    · have e : ex_pop 1 (o :: l) = ([], o :: l) := by simp only [ex_pop]; rw [if_neg hq]
      rw [e] at h0
      exact absurd h0 (by simp)
end
end
section
section
variable {lm pn wp sr sc se fl sp pt sg el rs sn wy ya vv vt ot ra br : Int32} {en oc : Int64} {it le pe op kd nu co cl ap rd si bg ct ls hd hk hc vl tk cn lf la pc yb yh yk ho vs os : Nat → Int32}
theorem yr_21 (s : Nat) (hs : s < 8) (tq : Nat → Int32) (N : Nat) (hN : N ≤ 16) (hW : ex_WF tq N) (hcn : cn (s + 1) = nI N) (htk : ∀ i, i < N → tk (16 * (s + 1) + i) = tq i) (x y k : Int32) :
    ∀ (r i : Nat), i + r = N → ∀ (os vs : Nat → Int32), ex_stk os ((ex_cs tq i).2.1.map ex_yo) → ex_stk vs (ex_ev x y k (ex_cs tq i).2.2).1 →
    ∃ (vt' ot' : Int32) (vs' os' : Nat → Int32), ∀ (post : Int32 → SY → Prop) (n : Nat), r < n → post ((ex_ev x y k (ex_code tq N)).1.headD 0) (lm, sr, sc, wy, sp, ya, se, fl, vv, vt', ot', ra, ex_bi (ex_ev x y k (ex_code tq N)).2, oc, it, le, tk, cn, kd, nu, lf, la, pc, yb, yh, yk, ho, ap, rd, si, vs', os') →
      wY_value_21 post (nI s) x y k n (ex_bi (ex_cs tq i).1) (nI i) lm sr sc wy sp ya se fl vv (nI (ex_ev x y k (ex_cs tq i).2.2).1.length) (nI (ex_cs tq i).2.1.length) ra (ex_bi (ex_ev x y k (ex_cs tq i).2.2).2) oc it le tk cn kd nu lf la pc yb yh yk ho ap rd si vs os := by
  have hs1 : nI s + 1 = nI (s + 1) := nI_1 s
  have hs2 : vp_in (nI s + 1) 9 := by rw [hs1]; exact vp_in_nI (by omega) (by omega)
  have hs3 : (nI s + 1).toNatClampNeg = s + 1 := by rw [hs1, nI_clamp (by omega)]
  have hix : ∀ i, 16 * (nI s + 1) + nI i = nI (16 * (s + 1) + i) := fun i => by
    rw [hs1, show (16 : Int32) = nI 16 from rfl, pk_mul, nI_add]
  intro r
  induction r with
  | zero =>
    intro i hi os vs h1 h2
    have : i = N := by omega
    subst this
    have hv := ex_inv_at hW.1 i (Nat.le_refl _)
    have hf := ex_fin hW
    have hfc : ex_fit (ex_code tq i) 0 := hf.2.2.1
    have hlenC := ex_ev_len x y k _ hv.2.1
    have hle := ex_hgt_le (ex_cs tq i).2.2 0
    have hvl := hv.2.2.2
    obtain ⟨vs', g1, g2⟩ := yr_280 (lm := lm) (sr := sr) (sc := sc) (wy := wy) (sp := sp) (ya := ya) (se := se) (fl := fl) (vv := vv) (ra := ra) (oc := oc) (it := it) (le := le) (tk := tk) (cn := cn) (kd := kd) (nu := nu) (lf := lf) (la := la) (pc := pc) (yb := yb) (yh := yh) (yk := yk) (ho := ho) (ap := ap) (rd := rd) (si := si) (os := os) x y k (ex_cs tq i).2.1 (ex_ev x y k (ex_cs tq i).2.2).1 (ex_ev x y k (ex_cs tq i).2.2).2 vs hf.1 hv.1 (by omega) (by omega) h1 h2
      (by rw [hlenC]; exact ex_fit_r _ _ _ hfc)
    have hfo : ex_fo x y k (ex_pop 1 (ex_cs tq i).2.1).1 ((ex_ev x y k (ex_cs tq i).2.2).1, (ex_ev x y k (ex_cs tq i).2.2).2) = ex_ev x y k (ex_code tq i) := (ex_ev_snoc x y k _ _).symm
    rw [hfo] at g1 g2
    have hl1 : (ex_ev x y k (ex_code tq i)).1.length = 1 := by
      rw [ex_ev_len x y k _ hfc, hf.2.2.2.1]; rfl
    have hh : vs' 0 = (ex_ev x y k (ex_code tq i)).1.headD 0 := by
      generalize (ex_ev x y k (ex_code tq i)).1 = st at *
      match st, hl1, g1 with
      | [v], _, g1 => exact g1.1
    refine ⟨nI (ex_ev x y k (ex_code tq i)).1.length, 0, vs', os, fun post n hn h => ?_⟩
    obtain ⟨m, rfl⟩ : ∃ m, n = m + 1 := ⟨n - 1, by omega⟩
    refine ⟨hs2, br_t ?_ ⟨_, g2 post _ (Nat.lt_succ_self _) ?_⟩⟩
    · rw [hs3, hcn]; exact Int32.le_refl _
    · rw [hh]; exact h
  | succ r IH =>
    intro i hi os vs h1 h2
    have hiN : i < N := by omega
    have hv := ex_inv_at hW.1 i (by omega)
    have hlg := hW.1 i hiN
    have IH := IH (i + 1) (by omega)
    have hcs : ex_cs tq (i + 1) = ex_step (tq i) (ex_cs tq i).1 (ex_cs tq i).2.1 (ex_cs tq i).2.2 := rfl
    rw [hcs] at IH
    have hNi : ¬ cn (nI s + 1).toNatClampNeg ≤ nI i := by rw [hs3, hcn]; exact nI_ge hiN (by omega)
    have hin : vp_in (16 * (nI s + 1) + nI i) 144 := by rw [hix]; exact vp_in_nI (by omega) (by omega)
    have ht : tk (16 * (nI s + 1) + nI i).toNatClampNeg = tq i := by rw [hix, nI_clamp (by omega)]; exact htk i hiN
    generalize ex_cs tq i = c at *
    obtain ⟨d, ops, code⟩ := c
    dsimp only at *
    generalize tq i = t at *
    have hlen := hv.2.2.2
    have hlenC := ex_ev_len x y k _ hv.2.1
    have hle := ex_hgt_le code 0
    have hvo : vp_in (nI ops.length) 20 := vp_in_nI (by omega) (by omega)
    have hco : (nI ops.length).toNatClampNeg = ops.length := nI_clamp (by omega)
    cases d with
    | true =>
      rcases hlg.1 rfl with rfl | rfl | ho
      · have e : ex_step 12 true ops code = (true, 12 :: ops, code) := by unfold ex_step; rw [if_neg (by decide), if_neg (by decide), if_pos rfl]
        rw [e] at IH
        obtain ⟨vt', ot', vs', os', g⟩ := IH (upd os ops.length 12) vs (by have := ex_stk_push os 12 _ h1; rw [List.length_map] at this; exact this) h2
        refine ⟨vt', ot', vs', os', fun post n hn h => ?_⟩
        obtain ⟨m, rfl⟩ : ∃ m, n = m + 1 := ⟨n - 1, by omega⟩
        exact ⟨hs2, br_f hNi ⟨hin, nm_r ht (br_t rfl (nm_r (nI_1 _) ⟨hvo, nm_r (by rw [hco]) (nm_r (nI_1 _) (g post m (by omega) h))⟩))⟩⟩
      · have e : ex_step 5 true ops code = (true, 14 :: ops, code) := by unfold ex_step; rw [if_neg (by decide), if_neg (by decide), if_neg (by decide), if_pos ⟨rfl, rfl⟩]
        rw [e] at IH
        obtain ⟨vt', ot', vs', os', g⟩ := IH (upd os ops.length 20) vs (by have := ex_stk_push os 20 _ h1; rw [List.length_map] at this; exact this) h2
        refine ⟨vt', ot', vs', os', fun post n hn h => ?_⟩
        obtain ⟨m, rfl⟩ : ∃ m, n = m + 1 := ⟨n - 1, by omega⟩
        exact ⟨hs2, br_f hNi ⟨hin, nm_r ht (br_f (by decide) (br_f (by decide) (br_t rfl (nm_r (nI_1 _) ⟨hvo, nm_r (by rw [hco]) (nm_r (nI_1 _) (g post m (by omega) h))⟩))))⟩⟩
      · have e : ex_step t true ops code = (false, ops, code ++ [t]) := by unfold ex_step; rw [if_pos ho]
        have e2 : ex_ev x y k (code ++ [t]) = (ex_val x y k t :: (ex_ev x y k code).1, (ex_ev x y k code).2) := by
          rw [ex_ev_app]; unfold ex_xs; rw [if_pos ho]
        rw [e] at IH
        dsimp only at IH
        rw [e2] at IH
        dsimp only at IH
        generalize ex_ev x y k code = st at *
        obtain ⟨st, b⟩ := st
        dsimp only at *
        have hvv : vp_in (nI st.length) 20 := vp_in_nI (by omega) (by omega)
        have hcv : (nI st.length).toNatClampNeg = st.length := nI_clamp (by omega)
        obtain ⟨vt', ot', vs', os', g⟩ := IH os (upd vs st.length (ex_val x y k t)) h1 (ex_stk_push _ _ _ h2)
        refine ⟨vt', ot', vs', os', fun post n hn h => ?_⟩
        obtain ⟨m, rfl⟩ : ∃ m, n = m + 1 := ⟨n - 1, by omega⟩
        have h12 : ¬ t = 12 := by intro z; rw [z] at ho; exact absurd ho (by decide)
        have h5 : ¬ t = 5 := by intro z; rw [z] at ho; exact absurd ho (by decide)
        refine ⟨hs2, br_f hNi ⟨hin, nm_r ht (br_f h12 (br_f (by decide) (br_f h5 (br_f (by decide) (nm_r (nI_1 _) (br_c (fun c => ?_) (fun c1 => br_c (fun c => ?_) (fun c2 => br_c (fun c => ?_) (fun c3 => ?_)))))))))⟩⟩
        · exact ⟨hvv, nm_r (by rw [hcv]; unfold ex_val; rw [if_pos c]) (nm_r (nI_1 _) (g post m (by omega) h))⟩
        · exact ⟨hvv, nm_r (by rw [hcv]; unfold ex_val; rw [if_neg c1, if_pos c]) (nm_r (nI_1 _) (g post m (by omega) h))⟩
        · exact ⟨hvv, nm_r (by rw [hcv]; unfold ex_val; rw [if_neg c1, if_neg c2, if_pos c]) (nm_r (nI_1 _) (g post m (by omega) h))⟩
        · exact ⟨hvv, nm_r (by rw [hcv]; unfold ex_val; rw [if_neg c1, if_neg c2, if_neg c3]) (nm_r (nI_1 _) (g post m (by omega) h))⟩
    | false =>
      rcases hlg.2 rfl with ⟨rfl, hm⟩ | hb
      · have e : ex_step 13 false ops code = (false, (ex_pop 1 ops).2.tail, code ++ (ex_pop 1 ops).1) := by
          unfold ex_step; rw [if_neg (by decide), if_pos rfl]
        have hp := ex_inv_pop 1 (Nat.le_refl _) hv
        have hfo : ex_ev x y k (code ++ (ex_pop 1 ops).1) = ex_fo x y k (ex_pop 1 ops).1 ((ex_ev x y k code).1, (ex_ev x y k code).2) := ex_ev_snoc x y k _ _
        rw [e] at IH
        dsimp only at IH
        rw [hfo] at IH
        rcases ex_pop_head ops hv.1 with ⟨_, b⟩ | ⟨q, hq⟩
        · exact absurd hm b
        · have hst : ex_stk os (((ex_pop 1 ops).2).map ex_yo) := ex_stk_app os ((ex_pop 1 ops).1.map ex_yo) _ (by rw [← List.map_append, ex_pop_eq]; exact h1)
          obtain ⟨vs1, w1, w2⟩ := yr_181 (lm := lm) (sr := sr) (sc := sc) (wy := wy) (sp := sp) (ya := ya) (se := se) (fl := fl) (vv := vv) (ra := ra) (oc := oc) (it := it) (le := le) (tk := tk) (cn := cn) (kd := kd) (nu := nu) (lf := lf) (la := la) (pc := pc) (yb := yb) (yh := yh) (yk := yk) (ho := ho) (ap := ap) (rd := rd) (si := si) (os := os) x y k (nI s) (ex_bi false) i q ops (ex_ev x y k code).1 (ex_ev x y k code).2 vs hq hv.1 (by omega) (by omega) h1 h2 (by rw [hlenC]; exact ex_fit_r _ _ _ hp.2.1)
          rw [hq] at IH hst
          obtain ⟨vt', ot', vs', os', g⟩ := IH os vs1 hst.2 w1
          refine ⟨vt', ot', vs', os', fun post n hn h => ?_⟩
          obtain ⟨m, rfl⟩ : ∃ m, n = m + 1 := ⟨n - 1, by omega⟩
          exact ⟨hs2, br_f hNi ⟨hin, nm_r ht (br_f (by decide) (br_t rfl (br_t rfl (br_t rfl ⟨_, w2 _ post _ (Nat.lt_succ_self _) (g post m (by omega) h)⟩))))⟩⟩
      · obtain ⟨b1, b2, b3, b4, b5⟩ := ex_bin_no hb
        have e : ex_step t false ops code = (true, t :: (ex_pop (ex_rk t) ops).2, code ++ (ex_pop (ex_rk t) ops).1) := by
          unfold ex_step; rw [if_neg (by simp [b1]), if_neg b4, if_neg b3, if_neg (by simp)]
        have hp := ex_inv_pop (ex_rk t) b5 hv
        have hfo : ex_ev x y k (code ++ (ex_pop (ex_rk t) ops).1) = ex_fo x y k (ex_pop (ex_rk t) ops).1 ((ex_ev x y k code).1, (ex_ev x y k code).2) := ex_ev_snoc x y k _ _
        rw [e] at IH
        dsimp only at IH
        rw [hfo] at IH
        have hst : ex_stk os (((ex_pop (ex_rk t) ops).2).map ex_yo) := ex_stk_app os ((ex_pop (ex_rk t) ops).1.map ex_yo) _ (by rw [← List.map_append, ex_pop_eq]; exact h1)
        have hpl := ex_pop_len (ex_rk t) ops
        obtain ⟨vs1, w1, w2⟩ := yr_217 (lm := lm) (sr := sr) (sc := sc) (wy := wy) (sp := sp) (ya := ya) (se := se) (fl := fl) (vv := vv) (ra := ra) (oc := oc) (it := it) (le := le) (tk := tk) (cn := cn) (kd := kd) (nu := nu) (lf := lf) (la := la) (pc := pc) (yb := yb) (yh := yh) (yk := yk) (ho := ho) (ap := ap) (rd := rd) (si := si) (os := os) x y k (nI s) (nI i) t hb ops (ex_ev x y k code).1 (ex_ev x y k code).2 vs hv.1 (by omega) (by omega) h1 h2 (by rw [hlenC]; exact ex_fit_r _ _ _ hp.2.1)
        obtain ⟨vt', ot', vs', os', g⟩ := IH (upd os (ex_pop (ex_rk t) ops).2.length t) vs1 (by
          have := ex_stk_push os t _ hst; rw [List.length_map] at this
          rw [List.map_cons, show ex_yo t = t from by unfold ex_yo; rw [if_neg b2]]; exact this) w1
        refine ⟨vt', ot', vs', os', fun post n hn h => ?_⟩
        obtain ⟨m, rfl⟩ : ∃ m, n = m + 1 := ⟨n - 1, by omega⟩
        refine ⟨hs2, br_f hNi ⟨hin, nm_r ht (br_f b3 (br_t rfl (br_t rfl (br_f b4 ⟨_, w2 _ post _ (Nat.lt_succ_self _) ?_⟩))))⟩⟩
        exact nm_r (nI_1 _) ⟨vp_in_nI (by omega) (by omega), nm_r (by rw [nI_clamp (by omega)]) (nm_r (nI_1 _) (g post m (by omega) h))⟩
theorem yr_value (s : Nat) (hs : s < 8) (tq : Nat → Int32) (N : Nat) (hN : N ≤ 16) (hW : ex_WF tq N) (hcn : cn (s + 1) = nI N) (htk : ∀ i, i < N → tk (16 * (s + 1) + i) = tq i) (x y k : Int32) :
    ∃ (vt' ot' : Int32) (vs' os' : Nat → Int32), ∀ (post : Int32 → SY → Prop), post ((ex_ev x y k (ex_code tq N)).1.headD 0) (lm, sr, sc, wy, sp, ya, se, fl, vv, vt', ot', ra, ex_bi (ex_ev x y k (ex_code tq N)).2, oc, it, le, tk, cn, kd, nu, lf, la, pc, yb, yh, yk, ho, ap, rd, si, vs', os') → wpY_value post (lm, sr, sc, wy, sp, ya, se, fl, vv, vt, ot, ra, br, oc, it, le, tk, cn, kd, nu, lf, la, pc, yb, yh, yk, ho, ap, rd, si, vs, os) (nI s) x y k := by
  obtain ⟨vt', ot', vs', os', g⟩ := yr_21 (lm := lm) (sr := sr) (sc := sc) (wy := wy) (sp := sp) (ya := ya) (se := se) (fl := fl) (vv := vv) (ra := ra) (oc := oc) (it := it) (le := le) (tk := tk) (cn := cn) (kd := kd) (nu := nu) (lf := lf) (la := la) (pc := pc) (yb := yb) (yh := yh) (yk := yk) (ho := ho) (ap := ap) (rd := rd) (si := si) s hs tq N hN hW hcn htk x y k N 0 (by omega) os vs trivial trivial
  exact ⟨vt', ot', vs', os', fun post h => ⟨_, g post _ (Nat.lt_succ_self _) h⟩⟩
end
end
section
/-! findWrongPlace against misfit -/
theorem mk_one : ∀ j, j < 32 → bt 1 j = decide (j = 0) := by decide +kernel
theorem mk_sh {d i : Nat} (hd : d < 32) (hi : i < 32) : bt ((1 : Int32) <<< (nI d &&& 31)) i = decide (i = d) := by
  rw [b_shl d hd 1 hi]
  by_cases h : d ≤ i
  · rw [mk_one _ (by omega)]
    by_cases e : i = d
    · subst e; simp
    · have : ¬ (i - d = 0) := by omega
      simp [e, this]
  · have : ¬ i = d := by omega
    simp [h, this]
theorem mk_bit {c : Int32} {d : Nat} (hd : d < 32) : (c &&& ((1 : Int32) <<< (nI d &&& 31)) = 0) ↔ bt c d = false := by
  constructor
  · intro h
    have := congrArg (fun z => bt z d) h
    simp only [b_and, mk_sh hd hd, b_0] at this
    simpa using this
  · intro h
    refine b_ext (fun i hi => ?_)
    rw [b_and, mk_sh hd hi, b_0]
    by_cases e : i = d
    · subst e; rw [h]; rfl
    · simp [e]
theorem mk_clr {c : Int32} {d i : Nat} (hd : d < 32) (hi : i < 32) : bt (c &&& (((1 : Int32) <<< (nI d &&& 31)) ^^^ (-1))) i = (bt c i && !decide (i = d)) := by
  rw [b_and, b_xor, mk_sh hd hi, b_m1 i hi]; simp
theorem mk_set {c : Int32} {d i : Nat} (hd : d < 32) (hi : i < 32) : bt (c ||| ((1 : Int32) <<< (nI d &&& 31))) i = (bt c i || decide (i = d)) := by
  rw [b_or, mk_sh hd hi]
def mk_R (c : Int32) (a : Nat → Int32) (D : Nat) : Prop := ∀ d, d ≤ D → (bt c d = false ↔ ¬ a d = 1)
def ex_ct (l : List Int32) : Nat := l.count 12
theorem ex_ct_pop (r : Nat) (hr : 1 ≤ r) : ∀ l : List Int32, ex_ct (ex_pop r l).2 = ex_ct l
  | [] => rfl
  | o :: l => by
    simp only [ex_pop]
    split
    · rename_i h
      have hn : ¬ (o = 12) := by rintro rfl; exact absurd (Nat.le_trans hr h) (by decide)
      rw [ex_ct_pop r hr l]
      unfold ex_ct
      rw [List.count_cons_of_ne]
      exact hn
    · rfl
theorem ex_tokC {t : Int32} (h1 : 1 ≤ t) (h2 : t ≤ 13) : t = 1 ∨ t = 2 ∨ t = 3 ∨ t = 4 ∨ t = 5 ∨ t = 6 ∨ t = 7 ∨ t = 8 ∨ t = 9 ∨ t = 10 ∨ t = 11 ∨ t = 12 ∨ t = 13 := by
  obtain ⟨j, hj, rfl⟩ := nI_of2 (M := 13) (n := 13) (by decide) (x := t) (by
    intro h; exact Int32.lt_irrefl (Int32.lt_of_lt_of_le h (Int32.le_trans (by decide : (0 : Int32) ≤ 1) h1))) h2
  have h1' : 1 ≤ j := by
    apply Classical.byContradiction
    intro z
    have : j = 0 := by omega
    subst this
    exact absurd h1 (by decide)
  have : j = 1 ∨ j = 2 ∨ j = 3 ∨ j = 4 ∨ j = 5 ∨ j = 6 ∨ j = 7 ∨ j = 8 ∨ j = 9 ∨ j = 10 ∨ j = 11 ∨ j = 12 ∨ j = 13 := by omega
  rcases this with rfl | rfl | rfl | rfl | rfl | rfl | rfl | rfl | rfl | rfl | rfl | rfl | rfl <;> decide
def ex_tok (t : Int32) : Prop := (1 ≤ t ∧ t ≤ 13) ∨ (1000 ≤ t ∧ t ≤ 100999)
theorem ex_tokK {t : Int32} (h : ex_tok t) : t = 1 ∨ t = 2 ∨ t = 3 ∨ 1000 ≤ t ∨ t = 5 ∨ t = 12 ∨ t = 13 ∨ (t = 9 ∨ t = 10) ∨ (t = 4 ∨ t = 6 ∨ t = 7 ∨ t = 8 ∨ t = 11) := by
  rcases h with ⟨h1, h2⟩ | ⟨h1, _⟩
  · rcases ex_tokC h1 h2 with h | h | h | h | h | h | h | h | h | h | h | h | h <;> simp [h]
  · simp [h1]
theorem ex_big {t : Int32} (h : 1000 ≤ t) : ex_opd t = true ∧ ¬ t = 12 ∧ ¬ t = 13 ∧ ¬ t = 2 ∧ ¬ t = 1 ∧ ¬ t = 3 ∧ ¬ t = 5 ∧ ¬ t < 4 ∧ 11 < t ∧ ¬ t = 9 ∧ ¬ t = 10 ∧ 14 < t := by
  refine ⟨by simp [ex_opd, h], ?_, ?_, ?_, ?_, ?_, ?_, ?_, ?_, ?_, ?_, ?_⟩
  all_goals first
    | (rintro rfl; exact absurd h (by decide))
    | exact Int32.lt_of_lt_of_le (by decide) h
    | exact fun z => Int32.lt_irrefl (Int32.lt_of_lt_of_le z (Int32.le_trans (by decide : (4 : Int32) ≤ 1000) h))
section
variable {lm pn wp sr sc se fl sp pt sg el rs sn wy ya vv vt ot ra br : Int32} {en oc : Int64} {it le pe op kd nu co cl ap rd si bg ct ls hd hk hc vl tk cn lf la pc yb yh yk ho vs os : Nat → Int32}
variable {py : Int32}
theorem fw_lock (N : Nat) (hN : N ≤ 16) (tq : Nat → Int32) (hval : ∀ i, i < N → ex_tok (tq i)) (hpe : ∀ i, i < N → pe i = tq i) (htk : ∀ i, i < N → tk i = tq i) (hcn : cn 0 = nI N) (jn : Int32) :
    ∀ (r i : Nat), i + r = N → (∀ j, j < i → ex_leg (tq j) (ex_cs tq j).1 (ex_cs tq j).2.1) → ∀ (c : Int32) (os : Nat → Int32), mk_R c os (ex_ct (ex_cs tq i).2.1) →
    ∃ (res : Int32) (os' : Nat → Int32), ((res = -1 ∧ ex_WF tq N) ∨ ¬ res < 0) ∧
      (∀ (post : Int32 → Prop) (n : Nat), r < n → post res → wX_findWrongPlace_47 post (nI N) jn lm pn wp sr sc se fl sp en pt sg el rs sn it le pe op kd nu co cl ap rd si bg ct ls hd hk hc vl n (ex_bi (ex_cs tq i).1) (nI (ex_ct (ex_cs tq i).2.1)) c (nI i)) ∧
      (∀ (post : Int32 → SY → Prop) (n : Nat), r < n → post res (lm, sr, sc, wy, py, ya, se, fl, vv, vt, ot, ra, br, oc, it, le, tk, cn, kd, nu, lf, la, pc, yb, yh, yk, ho, ap, rd, si, vs, os') → wY_misfit_7 post jn lm sr sc wy py ya se fl vv vt ot ra br oc n (ex_bi (ex_cs tq i).1) (nI (ex_ct (ex_cs tq i).2.1)) (nI i) it le tk cn kd nu lf la pc yb yh yk ho ap rd si vs os) := by
  intro r
  induction r with
  | zero =>
    intro i hi hlg c os hR
    have : i = N := by omega
    subst this
    have hv := ex_inv_at hlg i (Nat.le_refl _)
    have hcl : (ex_ct (ex_cs tq i).2.1) ≤ i := Nat.le_trans List.count_le_length (by have := hv.2.2.2; omega)
    have hXi : nI i ≤ nI i := Int32.le_refl _
    have hYi : cn 0 ≤ nI i := by rw [hcn]; exact Int32.le_refl _
    by_cases hd : (ex_cs tq i).1 = false
    · rw [hd]
      by_cases h0 : ex_ct (ex_cs tq i).2.1 = 0
      · rw [h0]
        refine ⟨-1, os, Or.inl ⟨rfl, hlg, hd, ?_⟩, fun post n hn h => ?_, fun post n hn h => ?_⟩
        · exact List.count_eq_zero.mp h0
        · obtain ⟨m, rfl⟩ : ∃ m, n = m + 1 := ⟨n - 1, by omega⟩
          exact br_t hXi (br_t rfl (br_t (show nI 0 ≤ 0 from by decide) h))
        · obtain ⟨m, rfl⟩ : ∃ m, n = m + 1 := ⟨n - 1, by omega⟩
          exact br_t hYi (br_t rfl (br_t (show nI 0 ≤ 0 from by decide) h))
      · have hne : ¬ nI (ex_ct (ex_cs tq i).2.1) ≤ 0 := nI_nle (by omega) (by omega)
        refine ⟨nI i, os, Or.inr (nI_pos (by omega)), fun post n hn h => ?_, fun post n hn h => ?_⟩
        · obtain ⟨m, rfl⟩ : ∃ m, n = m + 1 := ⟨n - 1, by omega⟩
          exact br_t hXi (br_t rfl (br_f hne h))
        · obtain ⟨m, rfl⟩ : ∃ m, n = m + 1 := ⟨n - 1, by omega⟩
          exact br_t hYi (br_t rfl (br_f hne (by rw [hcn]; exact h)))
    · have hd : (ex_cs tq i).1 = true := by simpa using hd
      rw [hd]
      refine ⟨nI i, os, Or.inr (nI_pos (by omega)), fun post n hn h => ?_, fun post n hn h => ?_⟩
      · obtain ⟨m, rfl⟩ : ∃ m, n = m + 1 := ⟨n - 1, by omega⟩
        exact br_t hXi (br_f (by decide) h)
      · obtain ⟨m, rfl⟩ : ∃ m, n = m + 1 := ⟨n - 1, by omega⟩
        exact br_t hYi (br_f (by decide) (by rw [hcn]; exact h))
  | succ r IH =>
    intro i hi hlg c os hR
    have hiN : i < N := by omega
    have hv := ex_inv_at hlg i (Nat.le_refl _)
    have hcl : (ex_ct (ex_cs tq i).2.1) ≤ i := Nat.le_trans List.count_le_length (by have := hv.2.2.2; omega)
    have hXi : ¬ nI N ≤ nI i := nI_ge hiN (by omega)
    have hYi : ¬ cn 0 ≤ nI i := by rw [hcn]; exact hXi
    have hXin : vp_in (nI i) 16 := vp_in_nI (by omega) (by omega)
    have hYin : vp_in (nI i) 144 := vp_in_nI (by omega) (by omega)
    have hXt : pe (nI i).toNatClampNeg = tq i := by rw [nI_clamp (by omega)]; exact hpe i hiN
    have hYt : tk (nI i).toNatClampNeg = tq i := by rw [nI_clamp (by omega)]; exact htk i hiN
    have hv1 := hval i hiN
    have IH := fun (h : ex_leg (tq i) (ex_cs tq i).1 (ex_cs tq i).2.1) => IH (i + 1) (by omega) (fun j hj => by
      rcases Nat.lt_succ_iff_lt_or_eq.mp hj with h1 | h1
      · exact hlg j h1
      · rw [h1]; exact h)
    have hcs : ex_cs tq (i + 1) = ex_step (tq i) (ex_cs tq i).1 (ex_cs tq i).2.1 (ex_cs tq i).2.2 := rfl
    rw [hcs] at IH
    generalize ex_cs tq i = q at *
    obtain ⟨d, ops, code⟩ := q
    dsimp only at *
    generalize tq i = t at *
    have hD : ex_ct ops < 17 := by omega
    -- the answer is i
    have stop : (∀ (post : Int32 → Prop) (m : Nat), post (nI i) → wX_findWrongPlace_47 post (nI N) jn lm pn wp sr sc se fl sp en pt sg el rs sn it le pe op kd nu co cl ap rd si bg ct ls hd hk hc vl (m + 1) (ex_bi d) (nI (ex_ct ops)) c (nI i)) →
        (∀ (post : Int32 → SY → Prop) (m : Nat), post (nI i) (lm, sr, sc, wy, py, ya, se, fl, vv, vt, ot, ra, br, oc, it, le, tk, cn, kd, nu, lf, la, pc, yb, yh, yk, ho, ap, rd, si, vs, os) → wY_misfit_7 post jn lm sr sc wy py ya se fl vv vt ot ra br oc (m + 1) (ex_bi d) (nI (ex_ct ops)) (nI i) it le tk cn kd nu lf la pc yb yh yk ho ap rd si vs os) →
        ∃ (res : Int32) (os' : Nat → Int32), ((res = -1 ∧ ex_WF tq N) ∨ ¬ res < 0) ∧
          (∀ (post : Int32 → Prop) (n : Nat), r + 1 < n → post res → wX_findWrongPlace_47 post (nI N) jn lm pn wp sr sc se fl sp en pt sg el rs sn it le pe op kd nu co cl ap rd si bg ct ls hd hk hc vl n (ex_bi d) (nI (ex_ct ops)) c (nI i)) ∧
          (∀ (post : Int32 → SY → Prop) (n : Nat), r + 1 < n → post res (lm, sr, sc, wy, py, ya, se, fl, vv, vt, ot, ra, br, oc, it, le, tk, cn, kd, nu, lf, la, pc, yb, yh, yk, ho, ap, rd, si, vs, os') → wY_misfit_7 post jn lm sr sc wy py ya se fl vv vt ot ra br oc n (ex_bi d) (nI (ex_ct ops)) (nI i) it le tk cn kd nu lf la pc yb yh yk ho ap rd si vs os) := by
      intro hx hy
      refine ⟨nI i, os, Or.inr (nI_pos (by omega)), fun post n hn h => ?_, fun post n hn h => ?_⟩
      · obtain ⟨m, rfl⟩ : ∃ m, n = m + 1 := ⟨n - 1, by omega⟩
        exact hx post m h
      · obtain ⟨m, rfl⟩ : ∃ m, n = m + 1 := ⟨n - 1, by omega⟩
        exact hy post m h
    -- it goes on
    have goon : ∀ (d' : Bool) (D' : Nat) (c' : Int32) (a' : Nat → Int32), (∃ (res : Int32) (os' : Nat → Int32), ((res = -1 ∧ ex_WF tq N) ∨ ¬ res < 0) ∧
          (∀ (post : Int32 → Prop) (n : Nat), r < n → post res → wX_findWrongPlace_47 post (nI N) jn lm pn wp sr sc se fl sp en pt sg el rs sn it le pe op kd nu co cl ap rd si bg ct ls hd hk hc vl n (ex_bi d') (nI D') c' (nI (i + 1))) ∧
          (∀ (post : Int32 → SY → Prop) (n : Nat), r < n → post res (lm, sr, sc, wy, py, ya, se, fl, vv, vt, ot, ra, br, oc, it, le, tk, cn, kd, nu, lf, la, pc, yb, yh, yk, ho, ap, rd, si, vs, os') → wY_misfit_7 post jn lm sr sc wy py ya se fl vv vt ot ra br oc n (ex_bi d') (nI D') (nI (i + 1)) it le tk cn kd nu lf la pc yb yh yk ho ap rd si vs a')) →
        (∀ (post : Int32 → Prop) (m : Nat), wX_findWrongPlace_47 post (nI N) jn lm pn wp sr sc se fl sp en pt sg el rs sn it le pe op kd nu co cl ap rd si bg ct ls hd hk hc vl m (ex_bi d') (nI D') c' (nI (i + 1)) → wX_findWrongPlace_47 post (nI N) jn lm pn wp sr sc se fl sp en pt sg el rs sn it le pe op kd nu co cl ap rd si bg ct ls hd hk hc vl (m + 1) (ex_bi d) (nI (ex_ct ops)) c (nI i)) →
        (∀ (post : Int32 → SY → Prop) (m : Nat), wY_misfit_7 post jn lm sr sc wy py ya se fl vv vt ot ra br oc m (ex_bi d') (nI D') (nI (i + 1)) it le tk cn kd nu lf la pc yb yh yk ho ap rd si vs a' → wY_misfit_7 post jn lm sr sc wy py ya se fl vv vt ot ra br oc (m + 1) (ex_bi d) (nI (ex_ct ops)) (nI i) it le tk cn kd nu lf la pc yb yh yk ho ap rd si vs os) →
        ∃ (res : Int32) (os' : Nat → Int32), ((res = -1 ∧ ex_WF tq N) ∨ ¬ res < 0) ∧
          (∀ (post : Int32 → Prop) (n : Nat), r + 1 < n → post res → wX_findWrongPlace_47 post (nI N) jn lm pn wp sr sc se fl sp en pt sg el rs sn it le pe op kd nu co cl ap rd si bg ct ls hd hk hc vl n (ex_bi d) (nI (ex_ct ops)) c (nI i)) ∧
          (∀ (post : Int32 → SY → Prop) (n : Nat), r + 1 < n → post res (lm, sr, sc, wy, py, ya, se, fl, vv, vt, ot, ra, br, oc, it, le, tk, cn, kd, nu, lf, la, pc, yb, yh, yk, ho, ap, rd, si, vs, os') → wY_misfit_7 post jn lm sr sc wy py ya se fl vv vt ot ra br oc n (ex_bi d) (nI (ex_ct ops)) (nI i) it le tk cn kd nu lf la pc yb yh yk ho ap rd si vs os) := by
      rintro d' D' c' a' ⟨res, os', g1, g2, g3⟩ hx hy
      refine ⟨res, os', g1, fun post n hn h => ?_, fun post n hn h => ?_⟩
      · obtain ⟨m, rfl⟩ : ∃ m, n = m + 1 := ⟨n - 1, by omega⟩
        exact hx post m (g2 post m (by omega) h)
      · obtain ⟨m, rfl⟩ : ∃ m, n = m + 1 := ⟨n - 1, by omega⟩
        exact hy post m (g3 post m (by omega) h)
    cases d with
    | true =>
      have hopd : ex_opd t = true → ∃ (res : Int32) (os' : Nat → Int32), ((res = -1 ∧ ex_WF tq N) ∨ ¬ res < 0) ∧
          (∀ (post : Int32 → Prop) (n : Nat), r < n → post res → wX_findWrongPlace_47 post (nI N) jn lm pn wp sr sc se fl sp en pt sg el rs sn it le pe op kd nu co cl ap rd si bg ct ls hd hk hc vl n (ex_bi false) (nI (ex_ct ops)) c (nI (i + 1))) ∧
          (∀ (post : Int32 → SY → Prop) (n : Nat), r < n → post res (lm, sr, sc, wy, py, ya, se, fl, vv, vt, ot, ra, br, oc, it, le, tk, cn, kd, nu, lf, la, pc, yb, yh, yk, ho, ap, rd, si, vs, os') → wY_misfit_7 post jn lm sr sc wy py ya se fl vv vt ot ra br oc n (ex_bi false) (nI (ex_ct ops)) (nI (i + 1)) it le tk cn kd nu lf la pc yb yh yk ho ap rd si vs os) := by
        intro ho
        have := IH ⟨fun _ => Or.inr (Or.inr ho), fun h => absurd h (by decide)⟩ c os
        have e : ex_step t true ops code = (false, ops, code ++ [t]) := by unfold ex_step; rw [if_pos ho]
        rw [e] at this
        exact this hR
      have yes : ∀ (post : Int32 → Prop) (m : Nat), ¬ t = 12 → ex_opd t = true → (t = 2 → ¬ jn = 0) → wX_findWrongPlace_47 post (nI N) jn lm pn wp sr sc se fl sp en pt sg el rs sn it le pe op kd nu co cl ap rd si bg ct ls hd hk hc vl m (ex_bi false) (nI (ex_ct ops)) c (nI (i + 1)) → wX_findWrongPlace_47 post (nI N) jn lm pn wp sr sc se fl sp en pt sg el rs sn it le pe op kd nu co cl ap rd si bg ct ls hd hk hc vl (m + 1) (ex_bi true) (nI (ex_ct ops)) c (nI i) := by
        intro post m h12 ho h2 h
        refine br_f hXi ⟨hXin, nm_r hXt (br_f (by decide) (br_f h12 (xr_isOperand ?_)))⟩
        rw [if_pos ho]
        exact br_f (by decide) (br_c (fun z => br_f (h2 z) (nm_r (nI_1 _) h)) (fun _ => nm_r (nI_1 _) h))
      have no : ∀ (post : Int32 → Prop) (m : Nat), ¬ t = 12 → ex_opd t = false → ¬ t = 5 → post (nI i) → wX_findWrongPlace_47 post (nI N) jn lm pn wp sr sc se fl sp en pt sg el rs sn it le pe op kd nu co cl ap rd si bg ct ls hd hk hc vl (m + 1) (ex_bi true) (nI (ex_ct ops)) c (nI i) := by
        intro post m h12 ho h5 h
        refine br_f hXi ⟨hXin, nm_r hXt (br_f (by decide) (br_f h12 (xr_isOperand ?_)))⟩
        rw [if_neg (by simp [ho])]
        exact br_t rfl (br_f h5 h)
      have yno : ∀ (post : Int32 → SY → Prop) (m : Nat), ¬ t = 12 → ¬ 1000 ≤ t → ¬ t = 1 → ¬ t = 3 → ¬ t = 2 → ¬ t = 5 → post (nI i) (lm, sr, sc, wy, py, ya, se, fl, vv, vt, ot, ra, br, oc, it, le, tk, cn, kd, nu, lf, la, pc, yb, yh, yk, ho, ap, rd, si, vs, os) → wY_misfit_7 post jn lm sr sc wy py ya se fl vv vt ot ra br oc (m + 1) (ex_bi true) (nI (ex_ct ops)) (nI i) it le tk cn kd nu lf la pc yb yh yk ho ap rd si vs os :=
        fun post m a1 a2 a3 a4 a5 a6 h => br_f hYi ⟨hYin, nm_r hYt (br_f (by decide) (br_f a1 (br_f a2 (br_f a3 (br_f a4 (br_f a5 (br_f a6 h)))))))⟩
      rcases ex_tokK hv1 with rfl | rfl | rfl | hbig | rfl | rfl | rfl | h910 | hoth
      · exact goon _ _ _ _ (hopd (by decide)) (fun post m h => yes post m (by decide) (by decide) (fun z => absurd z (by decide)) h)
          (fun post m h => br_f hYi ⟨hYin, nm_r hYt (br_f (by decide) (br_f (by decide) (br_f (by decide) (br_t rfl (nm_r (nI_1 _) h)))))⟩)
      · by_cases hj : jn = 0
        · refine stop (fun post m h => ?_) (fun post m h => br_f hYi ⟨hYin, nm_r hYt (br_f (by decide) (br_f (by decide) (br_f (by decide) (br_f (by decide) (br_f (by decide) (br_t rfl (br_t hj (br_f (by decide) h))))))))⟩)
          refine br_f hXi ⟨hXin, nm_r hXt (br_f (by decide) (br_f (by decide) (xr_isOperand ?_)))⟩
          exact br_f (by decide) (br_t rfl (br_t hj (br_f (by decide) h)))
        · exact goon _ _ _ _ (hopd (by decide)) (fun post m h => yes post m (by decide) (by decide) (fun _ => hj) h)
            (fun post m h => br_f hYi ⟨hYin, nm_r hYt (br_f (by decide) (br_f (by decide) (br_f (by decide) (br_f (by decide) (br_f (by decide) (br_t rfl (br_f hj (nm_r (nI_1 _) h))))))))⟩)
      · exact goon _ _ _ _ (hopd (by decide)) (fun post m h => yes post m (by decide) (by decide) (fun z => absurd z (by decide)) h)
          (fun post m h => br_f hYi ⟨hYin, nm_r hYt (br_f (by decide) (br_f (by decide) (br_f (by decide) (br_f (by decide) (br_t rfl (nm_r (nI_1 _) h))))))⟩)
      · obtain ⟨b1, b2, b3, b4, b5, b6, b7, _⟩ := ex_big hbig
        exact goon _ _ _ _ (hopd b1) (fun post m h => yes post m b2 b1 (fun z => absurd z b4) h)
          (fun post m h => br_f hYi ⟨hYin, nm_r hYt (br_f (by decide) (br_f b2 (br_t hbig (nm_r (nI_1 _) h))))⟩)
      · -- a minus before an operand
        have := IH ⟨fun _ => Or.inr (Or.inl rfl), fun h => absurd h (by decide)⟩ c os
        have e : ex_step 5 true ops code = (true, 14 :: ops, code) := by unfold ex_step; rw [if_neg (by decide), if_neg (by decide), if_neg (by decide), if_pos ⟨rfl, rfl⟩]
        rw [e] at this
        have ec : ex_ct (14 :: ops) = ex_ct ops := List.count_cons_of_ne (by decide)
        dsimp only at this
        rw [ec] at this
        refine goon _ _ _ _ (this hR) (fun post m h => ?_) (fun post m h => br_f hYi ⟨hYin, nm_r hYt (br_f (by decide) (br_f (by decide) (br_f (by decide) (br_f (by decide) (br_f (by decide) (br_f (by decide) (br_t rfl (nm_r (nI_1 _) h))))))))⟩)
        refine br_f hXi ⟨hXin, nm_r hXt (br_f (by decide) (br_f (by decide) (xr_isOperand ?_)))⟩
        exact br_t rfl (br_t rfl (nm_r (nI_1 _) h))
      · -- an opening bracket
        have := IH ⟨fun _ => Or.inl rfl, fun h => absurd h (by decide)⟩ (c &&& (((1 : Int32) <<< (nI (ex_ct ops + 1) &&& 31)) ^^^ (-1))) (upd os (ex_ct ops + 1) 0)
        have e : ex_step 12 true ops code = (true, 12 :: ops, code) := by unfold ex_step; rw [if_neg (by decide), if_neg (by decide), if_pos rfl]
        rw [e] at this
        have ec : ex_ct (12 :: ops) = ex_ct ops + 1 := List.count_cons_self
        dsimp only at this
        rw [ec] at this
        refine goon _ _ _ _ (this ?_) (fun post m h => br_f hXi ⟨hXin, nm_r hXt (br_f (by decide) (br_t rfl (nm_r (nI_1 _) (nm_r rfl (nm_r (nI_1 _) h)))))⟩)
          (fun post m h => br_f hYi ⟨hYin, nm_r hYt (br_f (by decide) (br_t rfl (nm_r (nI_1 _) ⟨vp_in_nI (by omega) (by omega), nm_r (by rw [nI_clamp (by omega)]) (nm_r (nI_1 _) h)⟩)))⟩)
        intro d hd
        rw [mk_clr (by omega) (by omega)]
        by_cases hdd : d = ex_ct ops + 1
        · subst hdd; rw [pk_us]; simp
        · rw [pk_un hdd, ← hR d (by omega)]; simp [hdd]
      · exact stop (fun post m h => no post m (by decide) (by decide) (by decide) h) (fun post m h => yno post m (by decide) (by decide) (by decide) (by decide) (by decide) (by decide) h)
      · rcases h910 with rfl | rfl
        all_goals exact stop (fun post m h => no post m (by decide) (by decide) (by decide) h) (fun post m h => yno post m (by decide) (by decide) (by decide) (by decide) (by decide) (by decide) h)
      · rcases hoth with rfl | rfl | rfl | rfl | rfl
        all_goals exact stop (fun post m h => no post m (by decide) (by decide) (by decide) h) (fun post m h => yno post m (by decide) (by decide) (by decide) (by decide) (by decide) (by decide) h)
    | false =>
      have x175 : ∀ (post : Int32 → Prop) (m : Nat), ex_rk t ≤ 1 → post (nI i) → wX_findWrongPlace_175 post (wX_findWrongPlace_47 post (nI N) jn lm pn wp sr sc se fl sp en pt sg el rs sn it le pe op kd nu co cl ap rd si bg ct ls hd hk hc vl m) (nI N) jn (nI (ex_ct ops)) c (nI i) t lm pn wp sr sc se fl sp en pt sg el rs sn it le pe op kd nu co cl ap rd si bg ct ls hd hk hc vl := by
        intro post m hr h
        refine xr_rank rfl (br_t ?_ h)
        rw [show (1 : Int32) = nI 1 from rfl, nI_leI (by omega) (by omega)]; exact hr
      have x142 : ∀ (post : Int32 → Prop) (m : Nat), ¬ t = 9 → ¬ t = 10 → ex_rk t ≤ 1 → post (nI i) → wX_findWrongPlace_142 post (wX_findWrongPlace_47 post (nI N) jn lm pn wp sr sc se fl sp en pt sg el rs sn it le pe op kd nu co cl ap rd si bg ct ls hd hk hc vl m) (nI N) jn (nI (ex_ct ops)) c (nI i) t lm pn wp sr sc se fl sp en pt sg el rs sn it le pe op kd nu co cl ap rd si bg ct ls hd hk hc vl :=
        fun post m h9 h10 hr h => br_f h9 (br_f h10 (br_t rfl (x175 post m hr h)))
      have xno : ∀ (post : Int32 → Prop) (m : Nat), ¬ t = 13 → ¬ t = 9 → ¬ t = 10 → ex_rk t ≤ 1 → post (nI i) → wX_findWrongPlace_47 post (nI N) jn lm pn wp sr sc se fl sp en pt sg el rs sn it le pe op kd nu co cl ap rd si bg ct ls hd hk hc vl (m + 1) (ex_bi false) (nI (ex_ct ops)) c (nI i) :=
        fun post m h13 h9 h10 hr h => br_f hXi ⟨hXin, nm_r hXt (br_t rfl (br_f h13 (x142 post m h9 h10 hr h)))⟩
      have yno1 : ∀ (post : Int32 → SY → Prop) (m : Nat), ¬ t = 13 → t < 4 → post (nI i) (lm, sr, sc, wy, py, ya, se, fl, vv, vt, ot, ra, br, oc, it, le, tk, cn, kd, nu, lf, la, pc, yb, yh, yk, ho, ap, rd, si, vs, os) → wY_misfit_7 post jn lm sr sc wy py ya se fl vv vt ot ra br oc (m + 1) (ex_bi false) (nI (ex_ct ops)) (nI i) it le tk cn kd nu lf la pc yb yh yk ho ap rd si vs os :=
        fun post m a1 a2 h => br_f hYi ⟨hYin, nm_r hYt (br_t rfl (br_f a1 (br_t a2 h)))⟩
      have yno2 : ∀ (post : Int32 → SY → Prop) (m : Nat), ¬ t = 13 → ¬ t < 4 → 11 < t → post (nI i) (lm, sr, sc, wy, py, ya, se, fl, vv, vt, ot, ra, br, oc, it, le, tk, cn, kd, nu, lf, la, pc, yb, yh, yk, ho, ap, rd, si, vs, os) → wY_misfit_7 post jn lm sr sc wy py ya se fl vv vt ot ra br oc (m + 1) (ex_bi false) (nI (ex_ct ops)) (nI i) it le tk cn kd nu lf la pc yb yh yk ho ap rd si vs os :=
        fun post m a1 a2 a3 h => br_f hYi ⟨hYin, nm_r hYt (br_t rfl (br_f a1 (br_f a2 (br_t a3 h))))⟩
      have hbinIH : ex_bin t = true → ∀ (c' : Int32) (a' : Nat → Int32), mk_R c' a' (ex_ct ops) → ∃ (res : Int32) (os' : Nat → Int32), ((res = -1 ∧ ex_WF tq N) ∨ ¬ res < 0) ∧
          (∀ (post : Int32 → Prop) (n : Nat), r < n → post res → wX_findWrongPlace_47 post (nI N) jn lm pn wp sr sc se fl sp en pt sg el rs sn it le pe op kd nu co cl ap rd si bg ct ls hd hk hc vl n (ex_bi true) (nI (ex_ct ops)) c' (nI (i + 1))) ∧
          (∀ (post : Int32 → SY → Prop) (n : Nat), r < n → post res (lm, sr, sc, wy, py, ya, se, fl, vv, vt, ot, ra, br, oc, it, le, tk, cn, kd, nu, lf, la, pc, yb, yh, yk, ho, ap, rd, si, vs, os') → wY_misfit_7 post jn lm sr sc wy py ya se fl vv vt ot ra br oc n (ex_bi true) (nI (ex_ct ops)) (nI (i + 1)) it le tk cn kd nu lf la pc yb yh yk ho ap rd si vs a') := by
        intro hb c' a' hR'
        obtain ⟨b1, b2, b3, b4, b5⟩ := ex_bin_no hb
        have := IH ⟨fun h => absurd h (by decide), fun _ => Or.inr hb⟩ c' a'
        have e : ex_step t false ops code = (true, t :: (ex_pop (ex_rk t) ops).2, code ++ (ex_pop (ex_rk t) ops).1) := by
          unfold ex_step; rw [if_neg (by simp [b1]), if_neg b4, if_neg b3, if_neg (by simp)]
        rw [e] at this
        have ec : ex_ct (t :: (ex_pop (ex_rk t) ops).2) = ex_ct ops := by
          rw [← ex_ct_pop (ex_rk t) b5 ops]; exact List.count_cons_of_ne b3
        dsimp only at this
        rw [ec] at this
        exact this hR'
      have xplain : ∀ (post : Int32 → Prop) (m : Nat), ¬ t = 13 → ¬ t = 9 → ¬ t = 10 → 1 < ex_rk t → wX_findWrongPlace_47 post (nI N) jn lm pn wp sr sc se fl sp en pt sg el rs sn it le pe op kd nu co cl ap rd si bg ct ls hd hk hc vl m (ex_bi true) (nI (ex_ct ops)) c (nI (i + 1)) → wX_findWrongPlace_47 post (nI N) jn lm pn wp sr sc se fl sp en pt sg el rs sn it le pe op kd nu co cl ap rd si bg ct ls hd hk hc vl (m + 1) (ex_bi false) (nI (ex_ct ops)) c (nI i) := by
        intro post m h13 h9 h10 hr h
        refine br_f hXi ⟨hXin, nm_r hXt (br_t rfl (br_f h13 (br_f h9 (br_f h10 (br_t rfl (xr_rank rfl (br_f ?_ (nm_r (nI_1 _) h))))))))⟩
        have := ex_rk_le t
        rw [show (1 : Int32) = nI 1 from rfl, nI_leI (by omega) (by omega)]; omega
      have yplain : ∀ (post : Int32 → SY → Prop) (m : Nat), ¬ t = 13 → ¬ t < 4 → ¬ 11 < t → ¬ t = 9 → ¬ t = 10 → wY_misfit_7 post jn lm sr sc wy py ya se fl vv vt ot ra br oc m (ex_bi true) (nI (ex_ct ops)) (nI (i + 1)) it le tk cn kd nu lf la pc yb yh yk ho ap rd si vs os → wY_misfit_7 post jn lm sr sc wy py ya se fl vv vt ot ra br oc (m + 1) (ex_bi false) (nI (ex_ct ops)) (nI i) it le tk cn kd nu lf la pc yb yh yk ho ap rd si vs os :=
        fun post m a1 a2 a3 a4 a5 h => br_f hYi ⟨hYin, nm_r hYt (br_t rfl (br_f a1 (br_f a2 (br_f a3 (br_f a4 (br_f a5 (br_t rfl (br_t rfl (nm_r (nI_1 _) h)))))))))⟩
      rcases ex_tokK hv1 with rfl | rfl | rfl | hbig | rfl | rfl | rfl | h910 | hoth
      · exact stop (fun post m h => xno post m (by decide) (by decide) (by decide) (by decide) h) (fun post m h => yno1 post m (by decide) (by decide) h)
      · exact stop (fun post m h => xno post m (by decide) (by decide) (by decide) (by decide) h) (fun post m h => yno1 post m (by decide) (by decide) h)
      · exact stop (fun post m h => xno post m (by decide) (by decide) (by decide) (by decide) h) (fun post m h => yno1 post m (by decide) (by decide) h)
      · obtain ⟨b1, b2, b3, b4, b5, b6, b7, b8, b9, b10, b11, b12⟩ := ex_big hbig
        exact stop (fun post m h => xno post m b3 b10 b11 (by rw [ex_rk_out (Or.inr b12)]; decide) h) (fun post m h => yno2 post m b3 b8 b9 h)
      · exact goon _ _ _ _ (hbinIH (by decide) c os hR) (fun post m h => xplain post m (by decide) (by decide) (by decide) (by decide) h) (fun post m h => yplain post m (by decide) (by decide) (by decide) (by decide) (by decide) h)
      · exact stop (fun post m h => xno post m (by decide) (by decide) (by decide) (by decide) h) (fun post m h => yno2 post m (by decide) (by decide) (by decide) h)
      · -- a closing bracket
        by_cases h0 : ex_ct ops = 0
        · rw [h0] at stop x142 ⊢
          exact stop (fun post m h => br_f hXi ⟨hXin, nm_r hXt (br_t rfl (br_t rfl (br_t (show nI 0 ≤ 0 from by decide) (x142 post m (by decide) (by decide) (by decide) h))))⟩)
            (fun post m h => br_f hYi ⟨hYin, nm_r hYt (br_t rfl (br_t rfl (br_t (show nI 0 = 0 from by decide) h)))⟩)
        · have hmem : (12 : Int32) ∈ ops := List.count_pos_iff.mp (Nat.pos_of_ne_zero h0)
          have := IH ⟨fun h => absurd h (by decide), fun _ => Or.inl ⟨rfl, hmem⟩⟩ c os
          have e : ex_step 13 false ops code = (false, (ex_pop 1 ops).2.tail, code ++ (ex_pop 1 ops).1) := by
            unfold ex_step; rw [if_neg (by decide), if_pos rfl]
          rw [e] at this
          have ep := ex_ct_pop 1 (Nat.le_refl _) ops
          rcases ex_pop_head ops hv.1 with ⟨_, b⟩ | ⟨q, hq⟩
          · exact absurd hmem b
          · rw [hq] at this ep
            have ec : ex_ct (12 :: q) = ex_ct q + 1 := List.count_cons_self
            rw [ec] at ep
            have hR2 : mk_R c os (ex_ct q) := fun d hd => hR d (by omega)
            refine goon false (ex_ct q) c os (this hR2) (fun post m h => ?_) (fun post m h => ?_)
            · rw [← ep]
              exact br_f hXi ⟨hXin, nm_r hXt (br_t rfl (br_t rfl (br_f (nI_nle (by omega) (by omega)) (nm_r (pk_m1 _) (nm_r (nI_1 _) h)))))⟩
            · rw [← ep]
              exact br_f hYi ⟨hYin, nm_r hYt (br_t rfl (br_t rfl (br_f (nI_ne0 (by omega) (by omega)) (nm_r (pk_m1 _) (nm_r (nI_1 _) h)))))⟩
      · -- < and =
        have hvD : vp_in (nI (ex_ct ops)) 20 := vp_in_nI (by omega) (by omega)
        have hcD : (nI (ex_ct ops)).toNatClampNeg = ex_ct ops := nI_clamp (by omega)
        have hbin : ex_bin t = true := by rcases h910 with rfl | rfl <;> decide
        have h13 : ¬ t = 13 := by rcases h910 with rfl | rfl <;> decide
        have hrk : ex_rk t ≤ 1 := by rcases h910 with rfl | rfl <;> decide
        have h4 : ¬ t < 4 := by rcases h910 with rfl | rfl <;> decide
        have h11 : ¬ 11 < t := by rcases h910 with rfl | rfl <;> decide
        have xcmp : ∀ {post : Int32 → Prop}, post 1 → wpX_isComparison post t := by
          intro post h
          rcases h910 with h9 | h10
          · exact br_t h9 h
          · exact br_c (fun _ => h) (fun _ => br_t h10 h)
        by_cases hb : bt c (ex_ct ops) = false
        · have ho1 := (hR (ex_ct ops) (Nat.le_refl _)).mp hb
          have hR2 : mk_R (c ||| ((1 : Int32) <<< (nI (ex_ct ops) &&& 31))) (upd os (ex_ct ops) 1) (ex_ct ops) := by
            intro d hd
            rw [mk_set (by omega) (by omega)]
            by_cases hdd : d = ex_ct ops
            · subst hdd; rw [pk_us]; simp
            · rw [pk_un hdd, ← hR d hd]; simp [hdd]
          refine goon _ _ _ _ (hbinIH hbin _ _ hR2) (fun post m h => ?_) (fun post m h => ?_)
          · exact br_f hXi ⟨hXin, nm_r hXt (br_t rfl (br_f h13 (xcmp (br_f (by decide) (br_t ((mk_bit (by omega)).mpr hb) (nm_r rfl (nm_r (nI_1 _) h)))))))⟩
          · have y142 : wY_misfit_142 post (wY_misfit_7 post jn lm sr sc wy py ya se fl vv vt ot ra br oc m) jn (nI (ex_ct ops)) (nI i) lm sr sc wy py ya se fl vv vt ot ra br oc it le tk cn kd nu lf la pc yb yh yk ho ap rd si vs os :=
              br_f (by decide) ⟨hvD, br_f (by rw [hcD]; exact ho1) (br_t rfl (br_f (by decide) ⟨hvD, nm_r (by rw [hcD]) (nm_r (nI_1 _) h)⟩))⟩
            refine br_f hYi ⟨hYin, nm_r hYt (br_t rfl (br_f h13 (br_f h4 (br_f h11 ?_))))⟩
            rcases h910 with h9 | h10
            · exact br_t h9 y142
            · exact br_c (fun _ => y142) (fun _ => br_t h10 y142)
        · have ho1 : os (ex_ct ops) = 1 := by
            apply Classical.byContradiction
            intro z
            exact hb ((hR (ex_ct ops) (Nat.le_refl _)).mpr z)
          refine stop (fun post m h => ?_) (fun post m h => ?_)
          · exact br_f hXi ⟨hXin, nm_r hXt (br_t rfl (br_f h13 (xcmp (br_f (by decide) (br_f (fun z => hb ((mk_bit (by omega)).mp z)) (x175 post m hrk h))))))⟩
          · have y142 : wY_misfit_142 post (wY_misfit_7 post jn lm sr sc wy py ya se fl vv vt ot ra br oc m) jn (nI (ex_ct ops)) (nI i) lm sr sc wy py ya se fl vv vt ot ra br oc it le tk cn kd nu lf la pc yb yh yk ho ap rd si vs os :=
              br_f (by decide) ⟨hvD, br_t (by rw [hcD]; exact ho1) (br_f (by decide) h)⟩
            refine br_f hYi ⟨hYin, nm_r hYt (br_t rfl (br_f h13 (br_f h4 (br_f h11 ?_))))⟩
            rcases h910 with h9 | h10
            · exact br_t h9 y142
            · exact br_c (fun _ => y142) (fun _ => br_t h10 y142)
      · rcases hoth with rfl | rfl | rfl | rfl | rfl
        all_goals exact goon _ _ _ _ (hbinIH (by decide) c os hR) (fun post m h => xplain post m (by decide) (by decide) (by decide) (by decide) h) (fun post m h => yplain post m (by decide) (by decide) (by decide) (by decide) (by decide) h)
end
end
section
/-! the relation between two calls -/
def rl_hx (k : Nat) : Bool := k == 0 || k == 1 || k == 4 || k == 5 || k == 7 || k == 10 || k == 12 || k == 14 || k == 16
def rl_Ex (co cl tk cn : Nat → Int32) (s : Nat) : Prop := ∃ (tq : Nat → Int32) (N : Nat), N ≤ 16 ∧ ex_WF tq N ∧ cn (s + 1) = nI N ∧ (∀ i, i < N → tk (16 * (s + 1) + i) = tq i) ∧ ex_lay co (16 * s) (ex_code tq N) ∧ cl s = nI (ex_code tq N).length
def rl_St (kd nu co cl tk cn : Nat → Int32) (s : Nat) : Prop := ∃ k : Nat, k ≤ 16 ∧ kd s = nI k ∧ ((k = 9 ∨ k = 10 ∨ k = 11) → ∃ m : Nat, m < 3 ∧ nu s = nI m) ∧ (rl_hx k = true → rl_Ex co cl tk cn s)
def rl_P (pn : Int32) (pe tk cn : Nat → Int32) : Prop := ∃ np : Nat, np ≤ 16 ∧ pn = nI np ∧ cn 0 = nI np ∧ ∀ i, i < np → pe i = tk i ∧ ex_tok (tk i)
def rl_S (sc : Int32) (kd nu co cl tk cn : Nat → Int32) : Prop := ∃ S : Nat, S ≤ 8 ∧ sc = nI S ∧ ∀ s, s < S → rl_St kd nu co cl tk cn s
def rl_L (le : Nat → Int32) : Prop := ∀ l, l < 3 → ∃ n : Nat, n ≤ 24 ∧ le l = nI n
def rl_M (lm : Int32) : Prop := ∃ L : Nat, 20 ≤ L ∧ L ≤ 150 ∧ lm = nI L
def rl_A (ra : Int32) (ap rd : Nat → Int32) : Prop := ra = 0 → (∀ i, i < 8 → ap i = 0) ∧ (∀ i, i < 3 → rd i = 0)
def i_Rel (_k : Nat) (u : SX) (v : SY) : Prop := ∃ (lm pn wp sr sc se fl sp py pt sg el rs sn ya vv vt ot ra br : Int32) (en oc : Int64) (it le pe op kd nu co cl ap rd si bg ct ls hd hk hc vl tk cn lf la pc yb yh yk ho vs os : Nat → Int32), u = (lm, pn, wp, sr, sc, se, fl, sp, en, pt, sg, el, rs, sn, it, le, pe, op, kd, nu, co, cl, ap, rd, si, bg, ct, ls, hd, hk, hc, vl) ∧ v = (lm, sr, sc, wp, py, ya, se, fl, vv, vt, ot, ra, br, oc, it, le, tk, cn, kd, nu, lf, la, pc, yb, yh, yk, ho, ap, rd, si, vs, os) ∧ rl_M lm ∧ rl_P pn pe tk cn ∧ (∃ m : Nat, m < 3 ∧ sr = nI m) ∧ rl_S sc kd nu co cl tk cn ∧ rl_L le ∧ (∃ c : Nat, c ≤ 16 ∧ se = nI c) ∧ rl_A ra ap rd
section
variable {lm pn wp sr sc se fl sp pt sg el rs sn wy ya vv vt ot ra br : Int32} {en oc : Int64} {it le pe op kd nu co cl ap rd si bg ct ls hd hk hc vl tk cn lf la pc yb yh yk ho vs os : Nat → Int32}
variable {py : Int32}
theorem rl_mk (k : Nat) (hM : rl_M lm) (hP : rl_P pn pe tk cn) (hSr : ∃ m : Nat, m < 3 ∧ sr = nI m) (hS : rl_S sc kd nu co cl tk cn) (hL : rl_L le) (hC : ∃ c : Nat, c ≤ 16 ∧ se = nI c) (hA : rl_A ra ap rd) : i_Rel k (lm, pn, wp, sr, sc, se, fl, sp, en, pt, sg, el, rs, sn, it, le, pe, op, kd, nu, co, cl, ap, rd, si, bg, ct, ls, hd, hk, hc, vl) (lm, sr, sc, wp, py, ya, se, fl, vv, vt, ot, ra, br, oc, it, le, tk, cn, kd, nu, lf, la, pc, yb, yh, yk, ho, ap, rd, si, vs, os) :=
  ⟨_, _, _, _, _, _, _, _, _, _, _, _, _, _, _, _, _, _, _, _, _, _, _, _, _, _, _, _, _, _, _, _, _, _, _, _, _, _, _, _, _, _, _, _, _, _, _, _, _, _, _, rfl, rfl, hM, hP, hSr, hS, hL, hC, hA⟩
end
theorem i_up {k : Nat} {u : SX} {v : SY} (h : i_Rel k u v) : i_Rel (k + 4) u v := h
theorem rl_0 (L : Nat) (h1 : 20 ≤ L) (h2 : L ≤ 150) : i_Rel 1 (nI L, 0, (-1), 0, 0, 0, (-1), 0, 0, 0, 0, 0, 0, 0, (fun _ => 0), (fun _ => 0), (fun _ => 0), (fun _ => 0), (fun _ => 0), (fun _ => 0), (fun _ => 0), (fun _ => 0), (fun _ => 0), (fun _ => 0), (fun _ => 0), (fun _ => 0), (fun _ => 0), (fun _ => 0), (fun _ => 0), (fun _ => 0), (fun _ => 0), (fun _ => 0)) (nI L, 0, 0, (-1), 0, 0, 0, (-1), 0, 0, 0, 0, 0, 0, (fun _ => 0), (fun _ => 0), (fun _ => 0), (fun _ => 0), (fun _ => 0), (fun _ => 0), (fun _ => 0), (fun _ => 0), (fun _ => 0), (fun _ => 0), (fun _ => 0), (fun _ => 0), (fun _ => 0), (fun _ => 0), (fun _ => 0), (fun _ => 0), (fun _ => 0), (fun _ => 0)) :=
  ⟨_, _, _, _, _, _, _, _, _, _, _, _, _, _, _, _, _, _, _, _, _, _, _, _, _, _, _, _, _, _, _, _, _, _, _, _, _, _, _, _, _, _, _, _, _, _, _, _, _, _, _, rfl, rfl, ⟨L, h1, h2, rfl⟩, ⟨0, by omega, rfl, rfl, fun i h => absurd h (by omega)⟩, ⟨0, by omega, rfl⟩, ⟨0, by omega, rfl, fun i h => absurd h (by omega)⟩, fun l _ => ⟨0, by omega, rfl⟩, ⟨0, by omega, rfl⟩, fun _ => ⟨fun _ _ => rfl, fun _ _ => rfl⟩⟩
theorem i_vc0 (k0 : Int32) : wpX_init (fun u => wpY_init (fun v => i_Rel 1 u v) k0) k0 := by
  by_cases h20 : 20 ≤ k0
  · by_cases h150 : k0 ≤ 150
    · obtain ⟨L, hL, rfl⟩ := nI_of2 (x := k0) (M := 150) (n := 150) (by decide) (by
        intro h; exact Int32.lt_irrefl (Int32.lt_of_lt_of_le h (Int32.le_trans (by decide : (0 : Int32) ≤ 20) h20))) h150
      have hL2 : 20 ≤ L := by
        rw [show (20 : Int32) = nI 20 from rfl, nI_leI (by omega) (by omega)] at h20; exact h20
      exact br_t h20 (br_t h150 (br_t h20 (br_t h150 (rl_0 L hL2 hL))))
    · exact br_t h20 (br_f h150 (br_t h20 (br_f h150 (rl_0 150 (by omega) (by omega)))))
  · exact br_f h20 (br_t (by decide) (br_f h20 (rl_0 20 (by omega) (by omega))))
theorem xr_isList {post : Int32 → Prop} {x : Int32} {j : Nat} (hj : j < 3) (hx : x = nI j) (h : post 1) : wpX_isList post x := by
  subst hx
  exact br_f (nI_pos (by omega)) (br_f (nI_ge (b := 3) hj (by decide)) h)
theorem yr_isList {post : Int32 → Prop} {x : Int32} {j : Nat} (hj : j < 3) (hx : x = nI j) (h : post 1) : wpY_isList post x := by
  subst hx
  refine br_f (nI_pos (by omega)) (br_f ?_ h)
  rw [show (2 : Int32) = nI 2 from rfl, nI_ltI (by omega) (by omega)]; omega
theorem xr_noList {post : Int32 → Prop} {x : Int32} (hx : x < 0 ∨ nI 3 ≤ x) (h : post 0) : wpX_isList post x := by
  rcases hx with hx | hx
  · exact br_t hx h
  · exact br_c (fun _ => h) (fun _ => br_t hx h)
theorem yr_noList {post : Int32 → Prop} {x : Int32} (hx : x < 0 ∨ nI 3 ≤ x) (h : post 0) : wpY_isList post x := by
  rcases hx with hx | hx
  · exact br_t hx h
  · exact br_c (fun _ => h) (fun _ => br_t (Int32.lt_of_lt_of_le (by decide) hx) h)
theorem rl_ix (x : Int32) : (x < 0 ∨ nI 3 ≤ x) ∨ ∃ j : Nat, j < 3 ∧ x = nI j := by
  rcases pk_ix x (n := 3) (by omega) with h | h | h
  · exact Or.inl (Or.inl h)
  · exact Or.inl (Or.inr h)
  · exact Or.inr h
theorem rl_L_upd {le : Nat → Int32} {j n : Nat} (h : rl_L le) (hn : n ≤ 24) : rl_L (upd le j (nI n)) := by
  intro l hl
  by_cases e : l = j
  · subst e; exact ⟨n, hn, pk_us⟩
  · rw [pk_un e]; exact h l hl
theorem i_vc_append {k : Nat} {u : SX} {v : SY} (I : i_Rel k u v) (hk : k + 4 ≤ 2049) (v1 : Int32) (v2 : Int32) : wpX_append (fun r u' => wpY_append (fun r' v' => r' = r ∧ i_Rel (k + 4) u' v') v v1 v2) u v1 v2 := by
  obtain ⟨lm, pn, wp, sr, sc, se, fl, sp, py, pt, sg, el, rs, sn, ya, vv, vt, ot, ra, br, en, oc, it, le, pe, op, kd, nu, co, cl, ap, rd, si, bg, ct, ls, hd, hk, hc, vl, tk, cn, lf, la, pc, yb, yh, yk, ho, vs, os, rfl, rfl, hM, hP, hSr, hS, hL, hC, hA⟩ := I
  rcases rl_ix v1 with hx | ⟨j, hj, rfl⟩
  · have hX : ∀ post : Int32 → SX → Prop, post (-1) (lm, pn, wp, sr, sc, se, fl, sp, en, pt, sg, el, rs, sn, it, le, pe, op, kd, nu, co, cl, ap, rd, si, bg, ct, ls, hd, hk, hc, vl) → wpX_append post (lm, pn, wp, sr, sc, se, fl, sp, en, pt, sg, el, rs, sn, it, le, pe, op, kd, nu, co, cl, ap, rd, si, bg, ct, ls, hd, hk, hc, vl) v1 v2 := fun post h => by
      unfold wpX_append; refine xr_noList hx ?_; exact br_t rfl h
    have hY : ∀ post : Int32 → SY → Prop, post (-1) (lm, sr, sc, wp, py, ya, se, fl, vv, vt, ot, ra, br, oc, it, le, tk, cn, kd, nu, lf, la, pc, yb, yh, yk, ho, ap, rd, si, vs, os) → wpY_append post (lm, sr, sc, wp, py, ya, se, fl, vv, vt, ot, ra, br, oc, it, le, tk, cn, kd, nu, lf, la, pc, yb, yh, yk, ho, ap, rd, si, vs, os) v1 v2 := fun post h => by
      unfold wpY_append; refine yr_noList hx ?_; exact br_t rfl h
    exact hX _ (hY _ ⟨rfl, rl_mk _ hM hP hSr hS hL hC hA⟩)
  · obtain ⟨n, hn, hln⟩ := hL j hj
    have hcj : (nI j).toNatClampNeg = j := nI_clamp (by omega)
    have hlc : le (nI j).toNatClampNeg = nI n := by rw [hcj]; exact hln
    have hi : vp_in (nI j) 3 := vp_in_nI hj (by omega)
    have eX : nI j * 24 + le (nI j).toNatClampNeg = nI (24 * j + n) := by
      rw [hlc, show (24 : Int32) = nI 24 from rfl, pk_mul, nI_add]; exact congrArg nI (by omega)
    have eY : 24 * nI j + le (nI j).toNatClampNeg = nI (24 * j + n) := by
      rw [hlc, show (24 : Int32) = nI 24 from rfl, pk_mul, nI_add]
    by_cases h24 : n = 24
    · subst h24
      have hX : ∀ post : Int32 → SX → Prop, post (-2) (lm, pn, wp, sr, sc, se, fl, sp, en, pt, sg, el, rs, sn, it, le, pe, op, kd, nu, co, cl, ap, rd, si, bg, ct, ls, hd, hk, hc, vl) → wpX_append post (lm, pn, wp, sr, sc, se, fl, sp, en, pt, sg, el, rs, sn, it, le, pe, op, kd, nu, co, cl, ap, rd, si, bg, ct, ls, hd, hk, hc, vl) (nI j) v2 := fun post h => by
        unfold wpX_append; refine xr_isList hj rfl ?_
        refine br_f (by decide) ⟨hi, br_f ?_ h⟩
        rw [hlc]; decide
      have hY : ∀ post : Int32 → SY → Prop, post (-2) (lm, sr, sc, wp, py, ya, se, fl, vv, vt, ot, ra, br, oc, it, le, tk, cn, kd, nu, lf, la, pc, yb, yh, yk, ho, ap, rd, si, vs, os) → wpY_append post (lm, sr, sc, wp, py, ya, se, fl, vv, vt, ot, ra, br, oc, it, le, tk, cn, kd, nu, lf, la, pc, yb, yh, yk, ho, ap, rd, si, vs, os) (nI j) v2 := fun post h => by
        unfold wpY_append; refine yr_isList hj rfl ?_
        exact br_f (by decide) ⟨hi, br_t hlc h⟩
      exact hX _ (hY _ ⟨rfl, rl_mk _ hM hP hSr hS hL hC hA⟩)
    · have hup : upd le j (nI (n + 1)) (nI j).toNatClampNeg = nI (n + 1) := by rw [hcj, pk_us]
      have hX : ∀ post : Int32 → SX → Prop, post (nI (n + 1)) (lm, pn, wp, sr, sc, se, fl, sp, en, pt, sg, el, rs, sn, upd it (24 * j + n) v2, upd le j (nI (n + 1)), pe, op, kd, nu, co, cl, ap, rd, si, bg, ct, ls, hd, hk, hc, vl) → wpX_append post (lm, pn, wp, sr, sc, se, fl, sp, en, pt, sg, el, rs, sn, it, le, pe, op, kd, nu, co, cl, ap, rd, si, bg, ct, ls, hd, hk, hc, vl) (nI j) v2 := fun post h => by
        unfold wpX_append; refine xr_isList hj rfl ?_
        refine br_f (by decide) ⟨hi, br_t ?_ ⟨hi, ?_, nm_r (e' := upd it (24 * j + n) v2) ?_ ⟨hi, hi, nm_r (e' := upd le j (nI (n + 1))) ?_ ⟨hi, ?_⟩⟩⟩⟩
        · rw [hlc, show (24 : Int32) = nI 24 from rfl, nI_ltI (by omega) (by omega)]; omega
        · rw [eX]; exact vp_in_nI (by omega) (by omega)
        · rw [eX, nI_clamp (by omega)]
        · rw [hlc, hcj, nI_1]
        · rw [hup]; exact h
      have hY : ∀ post : Int32 → SY → Prop, post (nI (n + 1)) (lm, sr, sc, wp, py, ya, se, fl, vv, vt, ot, ra, br, oc, upd it (24 * j + n) v2, upd le j (nI (n + 1)), tk, cn, kd, nu, lf, la, pc, yb, yh, yk, ho, ap, rd, si, vs, os) → wpY_append post (lm, sr, sc, wp, py, ya, se, fl, vv, vt, ot, ra, br, oc, it, le, tk, cn, kd, nu, lf, la, pc, yb, yh, yk, ho, ap, rd, si, vs, os) (nI j) v2 := fun post h => by
        unfold wpY_append; refine yr_isList hj rfl ?_
        refine br_f (by decide) ⟨hi, br_f ?_ ⟨hi, hi, nm_r (e' := upd le j (nI (n + 1))) ?_ ⟨?_, nm_r (e' := upd it (24 * j + n) v2) ?_ ⟨hi, ?_⟩⟩⟩⟩
        · rw [hlc, show (24 : Int32) = nI 24 from rfl, nI_eq (by omega) (by omega)]; exact h24
        · rw [hlc, hcj, nI_1]
        · rw [eY]; exact vp_in_nI (by omega) (by omega)
        · rw [eY, nI_clamp (by omega)]
        · rw [hup]; exact h
      exact hX _ (hY _ ⟨rfl, rl_mk _ hM hP hSr hS (rl_L_upd hL (by omega)) hC hA⟩)
theorem i_vc_set {k : Nat} {u : SX} {v : SY} (I : i_Rel k u v) (hk : k + 4 ≤ 2049) (v1 : Int32) (v2 : Int32) (v3 : Int32) : wpX_set (fun r u' => wpY_set (fun r' v' => r' = r ∧ i_Rel (k + 4) u' v') v v1 v2 v3) u v1 v2 v3 := by
  obtain ⟨lm, pn, wp, sr, sc, se, fl, sp, py, pt, sg, el, rs, sn, ya, vv, vt, ot, ra, br, en, oc, it, le, pe, op, kd, nu, co, cl, ap, rd, si, bg, ct, ls, hd, hk, hc, vl, tk, cn, lf, la, pc, yb, yh, yk, ho, vs, os, rfl, rfl, hM, hP, hSr, hS, hL, hC, hA⟩ := I
  rcases rl_ix v1 with hx | ⟨j, hj, rfl⟩
  · have hX : ∀ post : Int32 → SX → Prop, post (-1) (lm, pn, wp, sr, sc, se, fl, sp, en, pt, sg, el, rs, sn, it, le, pe, op, kd, nu, co, cl, ap, rd, si, bg, ct, ls, hd, hk, hc, vl) → wpX_set post (lm, pn, wp, sr, sc, se, fl, sp, en, pt, sg, el, rs, sn, it, le, pe, op, kd, nu, co, cl, ap, rd, si, bg, ct, ls, hd, hk, hc, vl) v1 v2 v3 := fun post h => by
      unfold wpX_set; refine xr_noList hx ?_; exact br_t rfl h
    have hY : ∀ post : Int32 → SY → Prop, post (-1) (lm, sr, sc, wp, py, ya, se, fl, vv, vt, ot, ra, br, oc, it, le, tk, cn, kd, nu, lf, la, pc, yb, yh, yk, ho, ap, rd, si, vs, os) → wpY_set post (lm, sr, sc, wp, py, ya, se, fl, vv, vt, ot, ra, br, oc, it, le, tk, cn, kd, nu, lf, la, pc, yb, yh, yk, ho, ap, rd, si, vs, os) v1 v2 v3 := fun post h => by
      unfold wpY_set; refine yr_noList hx ?_; exact br_t rfl h
    exact hX _ (hY _ ⟨rfl, rl_mk _ hM hP hSr hS hL hC hA⟩)
  · obtain ⟨n, hn, hln⟩ := hL j hj
    have hcj : (nI j).toNatClampNeg = j := nI_clamp (by omega)
    have hlc : le (nI j).toNatClampNeg = nI n := by rw [hcj]; exact hln
    have hi : vp_in (nI j) 3 := vp_in_nI hj (by omega)
    by_cases h0 : v2 < 0
    · have hX : ∀ post : Int32 → SX → Prop, post (-1) (lm, pn, wp, sr, sc, se, fl, sp, en, pt, sg, el, rs, sn, it, le, pe, op, kd, nu, co, cl, ap, rd, si, bg, ct, ls, hd, hk, hc, vl) → wpX_set post (lm, pn, wp, sr, sc, se, fl, sp, en, pt, sg, el, rs, sn, it, le, pe, op, kd, nu, co, cl, ap, rd, si, bg, ct, ls, hd, hk, hc, vl) (nI j) v2 v3 := fun post h => by
        unfold wpX_set; refine xr_isList hj rfl ?_; exact br_f (by decide) (br_t h0 h)
      have hY : ∀ post : Int32 → SY → Prop, post (-1) (lm, sr, sc, wp, py, ya, se, fl, vv, vt, ot, ra, br, oc, it, le, tk, cn, kd, nu, lf, la, pc, yb, yh, yk, ho, ap, rd, si, vs, os) → wpY_set post (lm, sr, sc, wp, py, ya, se, fl, vv, vt, ot, ra, br, oc, it, le, tk, cn, kd, nu, lf, la, pc, yb, yh, yk, ho, ap, rd, si, vs, os) (nI j) v2 v3 := fun post h => by
        unfold wpY_set; refine yr_isList hj rfl ?_; exact br_f (by decide) (br_t h0 h)
      exact hX _ (hY _ ⟨rfl, rl_mk _ hM hP hSr hS hL hC hA⟩)
    · by_cases hlt : v2 < le (nI j).toNatClampNeg
      · obtain ⟨p, hp, rfl⟩ := nI_of h0
        have hpn : p < n := by rw [hlc, nI_ltI hp (by omega)] at hlt; exact hlt
        have eX : nI j * 24 + nI p = nI (24 * j + p) := by
          rw [show (24 : Int32) = nI 24 from rfl, pk_mul, nI_add]; exact congrArg nI (by omega)
        have eY : 24 * nI j + nI p = nI (24 * j + p) := by
          rw [show (24 : Int32) = nI 24 from rfl, pk_mul, nI_add]
        have hin : vp_in (nI (24 * j + p)) 72 := vp_in_nI (by omega) (by omega)
        have hcc : (nI (24 * j + p)).toNatClampNeg = 24 * j + p := nI_clamp (by omega)
        have hX : ∀ post : Int32 → SX → Prop, post (it (24 * j + p) &&& 1073741823) (lm, pn, wp, sr, sc, se, fl, sp, en, pt, sg, el, rs, sn, upd it (24 * j + p) v3, le, pe, op, kd, nu, co, cl, ap, rd, si, bg, ct, ls, hd, hk, hc, vl) → wpX_set post (lm, pn, wp, sr, sc, se, fl, sp, en, pt, sg, el, rs, sn, it, le, pe, op, kd, nu, co, cl, ap, rd, si, bg, ct, ls, hd, hk, hc, vl) (nI j) (nI p) v3 := fun post h => by
          unfold wpX_set; refine xr_isList hj rfl ?_
          refine br_f (by decide) (br_f h0 ⟨hi, br_t hlt ⟨?_, nm_r (e' := it (24 * j + p)) ?_ ⟨?_, nm_r (e' := upd it (24 * j + p) v3) ?_ h⟩⟩⟩)
          · rw [eX]; exact hin
          · rw [eX, hcc]
          · rw [eX]; exact hin
          · rw [eX, hcc]
        have hY : ∀ post : Int32 → SY → Prop, post (it (24 * j + p) &&& 1073741823) (lm, sr, sc, wp, py, ya, se, fl, vv, vt, ot, ra, br, oc, upd it (24 * j + p) v3, le, tk, cn, kd, nu, lf, la, pc, yb, yh, yk, ho, ap, rd, si, vs, os) → wpY_set post (lm, sr, sc, wp, py, ya, se, fl, vv, vt, ot, ra, br, oc, it, le, tk, cn, kd, nu, lf, la, pc, yb, yh, yk, ho, ap, rd, si, vs, os) (nI j) (nI p) v3 := fun post h => by
          unfold wpY_set; refine yr_isList hj rfl ?_
          refine br_f (by decide) (br_f h0 ⟨hi, br_t hlt ⟨?_, nm_r (e' := it (24 * j + p)) ?_ ⟨?_, nm_r (e' := upd it (24 * j + p) v3) ?_ h⟩⟩⟩)
          · rw [eY]; exact hin
          · rw [eY, hcc]
          · rw [eY]; exact hin
          · rw [eY, hcc]
        exact hX _ (hY _ ⟨rfl, rl_mk _ hM hP hSr hS hL hC hA⟩)
      · have hX : ∀ post : Int32 → SX → Prop, post (-1) (lm, pn, wp, sr, sc, se, fl, sp, en, pt, sg, el, rs, sn, it, le, pe, op, kd, nu, co, cl, ap, rd, si, bg, ct, ls, hd, hk, hc, vl) → wpX_set post (lm, pn, wp, sr, sc, se, fl, sp, en, pt, sg, el, rs, sn, it, le, pe, op, kd, nu, co, cl, ap, rd, si, bg, ct, ls, hd, hk, hc, vl) (nI j) v2 v3 := fun post h => by
          unfold wpX_set; refine xr_isList hj rfl ?_; exact br_f (by decide) (br_f h0 ⟨hi, br_f hlt h⟩)
        have hY : ∀ post : Int32 → SY → Prop, post (-1) (lm, sr, sc, wp, py, ya, se, fl, vv, vt, ot, ra, br, oc, it, le, tk, cn, kd, nu, lf, la, pc, yb, yh, yk, ho, ap, rd, si, vs, os) → wpY_set post (lm, sr, sc, wp, py, ya, se, fl, vv, vt, ot, ra, br, oc, it, le, tk, cn, kd, nu, lf, la, pc, yb, yh, yk, ho, ap, rd, si, vs, os) (nI j) v2 v3 := fun post h => by
          unfold wpY_set; refine yr_isList hj rfl ?_; exact br_f (by decide) (br_f h0 ⟨hi, br_f hlt h⟩)
        exact hX _ (hY _ ⟨rfl, rl_mk _ hM hP hSr hS hL hC hA⟩)
theorem i_vc_clear {k : Nat} {u : SX} {v : SY} (I : i_Rel k u v) (hk : k + 4 ≤ 2049) (v1 : Int32) : wpX_clear (fun r u' => wpY_clear (fun r' v' => r' = r ∧ i_Rel (k + 4) u' v') v v1) u v1 := by
  obtain ⟨lm, pn, wp, sr, sc, se, fl, sp, py, pt, sg, el, rs, sn, ya, vv, vt, ot, ra, br, en, oc, it, le, pe, op, kd, nu, co, cl, ap, rd, si, bg, ct, ls, hd, hk, hc, vl, tk, cn, lf, la, pc, yb, yh, yk, ho, vs, os, rfl, rfl, hM, hP, hSr, hS, hL, hC, hA⟩ := I
  rcases rl_ix v1 with hx | ⟨j, hj, rfl⟩
  · have hX : ∀ post : Int32 → SX → Prop, post (-1) (lm, pn, wp, sr, sc, se, fl, sp, en, pt, sg, el, rs, sn, it, le, pe, op, kd, nu, co, cl, ap, rd, si, bg, ct, ls, hd, hk, hc, vl) → wpX_clear post (lm, pn, wp, sr, sc, se, fl, sp, en, pt, sg, el, rs, sn, it, le, pe, op, kd, nu, co, cl, ap, rd, si, bg, ct, ls, hd, hk, hc, vl) v1 := fun post h => by
      unfold wpX_clear; refine xr_noList hx ?_; exact br_t rfl h
    have hY : ∀ post : Int32 → SY → Prop, post (-1) (lm, sr, sc, wp, py, ya, se, fl, vv, vt, ot, ra, br, oc, it, le, tk, cn, kd, nu, lf, la, pc, yb, yh, yk, ho, ap, rd, si, vs, os) → wpY_clear post (lm, sr, sc, wp, py, ya, se, fl, vv, vt, ot, ra, br, oc, it, le, tk, cn, kd, nu, lf, la, pc, yb, yh, yk, ho, ap, rd, si, vs, os) v1 := fun post h => by
      unfold wpY_clear; refine yr_noList hx ?_; exact br_t rfl h
    exact hX _ (hY _ ⟨rfl, rl_mk _ hM hP hSr hS hL hC hA⟩)
  · have hcj : (nI j).toNatClampNeg = j := nI_clamp (by omega)
    have hi : vp_in (nI j) 3 := vp_in_nI hj (by omega)
    have hX : ∀ post : Int32 → SX → Prop, post (le j) (lm, pn, wp, sr, sc, se, fl, sp, en, pt, sg, el, rs, sn, it, upd le j (nI 0), pe, op, kd, nu, co, cl, ap, rd, si, bg, ct, ls, hd, hk, hc, vl) → wpX_clear post (lm, pn, wp, sr, sc, se, fl, sp, en, pt, sg, el, rs, sn, it, le, pe, op, kd, nu, co, cl, ap, rd, si, bg, ct, ls, hd, hk, hc, vl) (nI j) := fun post h => by
      unfold wpX_clear; refine xr_isList hj rfl ?_
      exact br_f (by decide) ⟨hi, nm_r (by rw [hcj]) ⟨hi, nm_r (by rw [hcj]; rfl) h⟩⟩
    have hY : ∀ post : Int32 → SY → Prop, post (le j) (lm, sr, sc, wp, py, ya, se, fl, vv, vt, ot, ra, br, oc, it, upd le j (nI 0), tk, cn, kd, nu, lf, la, pc, yb, yh, yk, ho, ap, rd, si, vs, os) → wpY_clear post (lm, sr, sc, wp, py, ya, se, fl, vv, vt, ot, ra, br, oc, it, le, tk, cn, kd, nu, lf, la, pc, yb, yh, yk, ho, ap, rd, si, vs, os) (nI j) := fun post h => by
      unfold wpY_clear; refine yr_isList hj rfl ?_
      exact br_f (by decide) ⟨hi, nm_r (by rw [hcj]) ⟨hi, nm_r (by rw [hcj]; rfl) h⟩⟩
    exact hX _ (hY _ ⟨rfl, rl_mk _ hM hP hSr hS (rl_L_upd hL (by omega)) hC hA⟩)
theorem i_vc_from {k : Nat} {u : SX} {v : SY} (I : i_Rel k u v) (hk : k + 4 ≤ 2049) (v1 : Int32) : wpX_from (fun r u' => wpY_from (fun r' v' => r' = r ∧ i_Rel (k + 4) u' v') v v1) u v1 := by
  obtain ⟨lm, pn, wp, sr, sc, se, fl, sp, py, pt, sg, el, rs, sn, ya, vv, vt, ot, ra, br, en, oc, it, le, pe, op, kd, nu, co, cl, ap, rd, si, bg, ct, ls, hd, hk, hc, vl, tk, cn, lf, la, pc, yb, yh, yk, ho, vs, os, rfl, rfl, hM, hP, hSr, hS, hL, hC, hA⟩ := I
  rcases rl_ix v1 with hx | ⟨j, hj, rfl⟩
  · have hX : ∀ post : Int32 → SX → Prop, post (-1) (lm, pn, wp, sr, sc, se, fl, sp, en, pt, sg, el, rs, sn, it, le, pe, op, kd, nu, co, cl, ap, rd, si, bg, ct, ls, hd, hk, hc, vl) → wpX_from post (lm, pn, wp, sr, sc, se, fl, sp, en, pt, sg, el, rs, sn, it, le, pe, op, kd, nu, co, cl, ap, rd, si, bg, ct, ls, hd, hk, hc, vl) v1 := fun post h => by
      unfold wpX_from; refine xr_noList hx ?_; exact br_t rfl h
    have hY : ∀ post : Int32 → SY → Prop, post (-1) (lm, sr, sc, wp, py, ya, se, fl, vv, vt, ot, ra, br, oc, it, le, tk, cn, kd, nu, lf, la, pc, yb, yh, yk, ho, ap, rd, si, vs, os) → wpY_from post (lm, sr, sc, wp, py, ya, se, fl, vv, vt, ot, ra, br, oc, it, le, tk, cn, kd, nu, lf, la, pc, yb, yh, yk, ho, ap, rd, si, vs, os) v1 := fun post h => by
      unfold wpY_from; refine yr_noList hx ?_; exact br_t rfl h
    exact hX _ (hY _ ⟨rfl, rl_mk _ hM hP hSr hS hL hC hA⟩)
  · have hX : ∀ post : Int32 → SX → Prop, post sc (lm, pn, wp, nI j, 0, se, fl, sp, en, pt, sg, el, rs, sn, it, le, pe, op, kd, nu, co, cl, ap, rd, si, bg, ct, ls, hd, hk, hc, vl) → wpX_from post (lm, pn, wp, sr, sc, se, fl, sp, en, pt, sg, el, rs, sn, it, le, pe, op, kd, nu, co, cl, ap, rd, si, bg, ct, ls, hd, hk, hc, vl) (nI j) := fun post h => by
      unfold wpX_from; refine xr_isList hj rfl ?_; exact br_f (by decide) h
    have hY : ∀ post : Int32 → SY → Prop, post sc (lm, nI j, 0, wp, py, ya, se, fl, vv, vt, ot, ra, br, oc, it, le, tk, cn, kd, nu, lf, la, pc, yb, yh, yk, ho, ap, rd, si, vs, os) → wpY_from post (lm, sr, sc, wp, py, ya, se, fl, vv, vt, ot, ra, br, oc, it, le, tk, cn, kd, nu, lf, la, pc, yb, yh, yk, ho, ap, rd, si, vs, os) (nI j) := fun post h => by
      unfold wpY_from; refine yr_isList hj rfl ?_; exact br_f (by decide) h
    exact hX _ (hY _ ⟨rfl, rl_mk _ hM hP ⟨j, hj, rfl⟩ ⟨0, by omega, rfl, fun s hs => absurd hs (by omega)⟩ hL hC hA⟩)
theorem i_vc_place {k : Nat} {u : SX} {v : SY} (I : i_Rel k u v) (hk : k + 4 ≤ 2049) : wpX_place (fun r => wpY_place (fun r' => r' = r ∧ i_Rel (k + 4) u v) v) u := by
  have I' := i_up I
  obtain ⟨lm, pn, wp, sr, sc, se, fl, sp, py, pt, sg, el, rs, sn, ya, vv, vt, ot, ra, br, en, oc, it, le, pe, op, kd, nu, co, cl, ap, rd, si, bg, ct, ls, hd, hk, hc, vl, tk, cn, lf, la, pc, yb, yh, yk, ho, vs, os, rfl, rfl, hM, hP, hSr, hS, hL, hC, hA⟩ := I
  exact ⟨rfl, I'⟩
theorem i_vc_failed {k : Nat} {u : SX} {v : SY} (I : i_Rel k u v) (hk : k + 4 ≤ 2049) : wpX_failed (fun r => wpY_failed (fun r' => r' = r ∧ i_Rel (k + 4) u v) v) u := by
  have I' := i_up I
  obtain ⟨lm, pn, wp, sr, sc, se, fl, sp, py, pt, sg, el, rs, sn, ya, vv, vt, ot, ra, br, en, oc, it, le, pe, op, kd, nu, co, cl, ap, rd, si, bg, ct, ls, hd, hk, hc, vl, tk, cn, lf, la, pc, yb, yh, yk, ho, vs, os, rfl, rfl, hM, hP, hSr, hS, hL, hC, hA⟩ := I
  exact ⟨rfl, I'⟩
theorem i_vc_unstage {k : Nat} {u : SX} {v : SY} (I : i_Rel k u v) (hk : k + 4 ≤ 2049) : wpX_unstage (fun r u' => wpY_unstage (fun r' v' => r' = r ∧ i_Rel (k + 4) u' v') v) u := by
  obtain ⟨lm, pn, wp, sr, sc, se, fl, sp, py, pt, sg, el, rs, sn, ya, vv, vt, ot, ra, br, en, oc, it, le, pe, op, kd, nu, co, cl, ap, rd, si, bg, ct, ls, hd, hk, hc, vl, tk, cn, lf, la, pc, yb, yh, yk, ho, vs, os, rfl, rfl, hM, hP, hSr, ⟨S, hS1, rfl, hS2⟩, hL, hC, hA⟩ := I
  by_cases h0 : nI S = 0
  · exact br_t h0 (br_t h0 ⟨rfl, rl_mk _ hM hP hSr ⟨S, hS1, rfl, hS2⟩ hL hC hA⟩)
  · obtain ⟨T, rfl⟩ : ∃ T, S = T + 1 := ⟨S - 1, by
      have : S ≠ 0 := by rintro rfl; exact h0 rfl
      omega⟩
    exact br_f h0 (nm_r (nI_pred T) (br_f h0 (nm_r (nI_pred T) ⟨rfl, rl_mk _ hM hP hSr ⟨T, by omega, rfl, fun s hs => hS2 s (by omega)⟩ hL hC hA⟩)))
theorem i_vc_applied {k : Nat} {u : SX} {v : SY} (I : i_Rel k u v) (hk : k + 4 ≤ 2049) (v1 : Int32) : wpX_applied (fun r => wpY_applied (fun r' => r' = r ∧ i_Rel (k + 4) u v) v v1) u v1 := by
  have I' := i_up I
  obtain ⟨lm, pn, wp, sr, sc, se, fl, sp, py, pt, sg, el, rs, sn, ya, vv, vt, ot, ra, br, en, oc, it, le, pe, op, kd, nu, co, cl, ap, rd, si, bg, ct, ls, hd, hk, hc, vl, tk, cn, lf, la, pc, yb, yh, yk, ho, vs, os, rfl, rfl, hM, hP, hSr, hS, hL, hC, hA⟩ := I
  have hY0 : ∀ z : Int32, (v1 < 0 ∨ nI 8 ≤ v1 → z = 0) → (∀ j : Nat, j < 8 → v1 = nI j → z = ap j) → wpY_applied (fun r' => r' = z ∧ i_Rel (k + 4) (lm, pn, wp, sr, sc, se, fl, sp, en, pt, sg, el, rs, sn, it, le, pe, op, kd, nu, co, cl, ap, rd, si, bg, ct, ls, hd, hk, hc, vl) (lm, sr, sc, wp, py, ya, se, fl, vv, vt, ot, ra, br, oc, it, le, tk, cn, kd, nu, lf, la, pc, yb, yh, yk, ho, ap, rd, si, vs, os)) (lm, sr, sc, wp, py, ya, se, fl, vv, vt, ot, ra, br, oc, it, le, tk, cn, kd, nu, lf, la, pc, yb, yh, yk, ho, ap, rd, si, vs, os) v1 := by
    intro z hz hz2
    refine br_c (fun h0 => ?_) (fun _ => ?_)
    · rcases pk_ix v1 (n := 8) (by omega) with h | h | ⟨j, hj, e⟩
      · exact ⟨(hz (Or.inl h)).symm, I'⟩
      · exact ⟨(hz (Or.inr h)).symm, I'⟩
      · exact ⟨((hz2 j hj e).trans ((hA h0).1 j hj)).symm, I'⟩
    · rcases pk_ix v1 (n := 8) (by omega) with h | h | ⟨j, hj, e⟩
      · exact br_t h ⟨(hz (Or.inl h)).symm, I'⟩
      · refine br_c (fun _ => ⟨(hz (Or.inr h)).symm, I'⟩) (fun _ => br_f ?_ ⟨(hz (Or.inr h)).symm, I'⟩)
        intro h7; exact Int32.lt_irrefl (Int32.lt_of_lt_of_le (Int32.lt_of_le_of_lt h7 (by decide : (7 : Int32) < nI 8)) h)
      · have hz3 := hz2 j hj e
        subst e
        refine br_f (nI_pos (by omega)) (br_t ?_ ⟨vp_in_nI hj (by omega), ?_, I'⟩)
        · rw [show (7 : Int32) = nI 7 from rfl, nI_leI (by omega) (by omega)]; omega
        · rw [nI_clamp (by omega)]; exact hz3.symm
  rcases pk_ix v1 (n := 8) (by omega) with h | h | ⟨j, hj, e⟩
  · exact br_t h (hY0 0 (fun _ => rfl) (fun j hj e => by subst e; exact absurd h (nI_pos (by omega))))
  · refine br_c (fun h0 => hY0 0 (fun _ => rfl) (fun j hj e => by subst e; exact absurd h0 (nI_pos (by omega)))) (fun _ => br_t h (hY0 0 (fun _ => rfl) (fun j hj e => ?_)))
    subst e; exact absurd h (nI_ge hj (by omega))
  · subst e
    refine br_f (nI_pos (by omega)) (br_f (nI_ge (b := 8) hj (by decide)) ⟨vp_in_nI hj (by omega), hY0 _ (fun z => ?_) (fun i hi e => ?_)⟩)
    · rcases z with z | z
      · exact absurd z (nI_pos (by omega))
      · exact absurd z (nI_ge hj (by omega))
    · rw [nI_eq (by omega) (by omega)] at e
      subst e
      rw [nI_clamp (by omega)]
theorem i_vc_read {k : Nat} {u : SX} {v : SY} (I : i_Rel k u v) (hk : k + 4 ≤ 2049) (v1 : Int32) : wpX_read (fun r => wpY_read (fun r' => r' = r ∧ i_Rel (k + 4) u v) v v1) u v1 := by
  have I' := i_up I
  obtain ⟨lm, pn, wp, sr, sc, se, fl, sp, py, pt, sg, el, rs, sn, ya, vv, vt, ot, ra, br, en, oc, it, le, pe, op, kd, nu, co, cl, ap, rd, si, bg, ct, ls, hd, hk, hc, vl, tk, cn, lf, la, pc, yb, yh, yk, ho, vs, os, rfl, rfl, hM, hP, hSr, hS, hL, hC, hA⟩ := I
  rcases rl_ix v1 with hx | ⟨j, hj, rfl⟩
  · have hX : ∀ post : Int32 → Prop, post 0 → wpX_read post (lm, pn, wp, sr, sc, se, fl, sp, en, pt, sg, el, rs, sn, it, le, pe, op, kd, nu, co, cl, ap, rd, si, bg, ct, ls, hd, hk, hc, vl) v1 := fun post h => by
      unfold wpX_read; refine xr_noList hx ?_; exact br_t rfl h
    have hY : ∀ post : Int32 → Prop, post 0 → wpY_read post (lm, sr, sc, wp, py, ya, se, fl, vv, vt, ot, ra, br, oc, it, le, tk, cn, kd, nu, lf, la, pc, yb, yh, yk, ho, ap, rd, si, vs, os) v1 := fun post h => by
      unfold wpY_read; refine br_c (fun _ => h) (fun _ => ?_); refine yr_noList hx ?_; exact br_t rfl h
    exact hX _ (hY _ ⟨rfl, I'⟩)
  · have hi : vp_in (nI j) 3 := vp_in_nI hj (by omega)
    have hcj : (nI j).toNatClampNeg = j := nI_clamp (by omega)
    have hX : ∀ post : Int32 → Prop, post (rd j) → wpX_read post (lm, pn, wp, sr, sc, se, fl, sp, en, pt, sg, el, rs, sn, it, le, pe, op, kd, nu, co, cl, ap, rd, si, bg, ct, ls, hd, hk, hc, vl) (nI j) := fun post h => by
      unfold wpX_read; refine xr_isList hj rfl ?_; exact br_f (by decide) ⟨hi, by rw [hcj]; exact h⟩
    have hY : ∀ post : Int32 → Prop, post (rd j) → wpY_read post (lm, sr, sc, wp, py, ya, se, fl, vv, vt, ot, ra, br, oc, it, le, tk, cn, kd, nu, lf, la, pc, yb, yh, yk, ho, ap, rd, si, vs, os) (nI j) := fun post h => by
      unfold wpY_read; refine br_c (fun h0 => by rw [(hA h0).2 j hj] at h; exact h) (fun _ => ?_); refine yr_isList hj rfl ?_; exact br_f (by decide) ⟨hi, by rw [hcj]; exact h⟩
    exact hX _ (hY _ ⟨rfl, I'⟩)
theorem i_vc_seen {k : Nat} {u : SX} {v : SY} (I : i_Rel k u v) (hk : k + 4 ≤ 2049) (v1 : Int32) : wpX_seen (fun r => wpY_seen (fun r' => r' = r ∧ i_Rel (k + 4) u v) v v1) u v1 := by
  have I' := i_up I
  obtain ⟨lm, pn, wp, sr, sc, se, fl, sp, py, pt, sg, el, rs, sn, ya, vv, vt, ot, ra, br, en, oc, it, le, pe, op, kd, nu, co, cl, ap, rd, si, bg, ct, ls, hd, hk, hc, vl, tk, cn, lf, la, pc, yb, yh, yk, ho, vs, os, rfl, rfl, hM, hP, hSr, hS, hL, ⟨c, hc1, rfl⟩, hA⟩ := I
  by_cases h0 : v1 < 0
  · exact br_t h0 (br_t h0 ⟨rfl, I'⟩)
  · by_cases h1 : v1 < nI c
    · obtain ⟨p, hp, rfl⟩ := nI_of h0
      have hpc : p < c := by rw [nI_ltI hp (by omega)] at h1; exact h1
      have hin : vp_in (nI p) 16 := vp_in_nI (by omega) (by omega)
      exact br_f h0 (br_f (Int32.not_le.mpr h1) ⟨hin, br_f h0 (br_t h1 ⟨hin, rfl, I'⟩)⟩)
    · exact br_f h0 (br_t (Int32.not_lt.mp h1) (br_f h0 (br_f h1 ⟨rfl, I'⟩)))
end
section
def pt_cz (t : Int32) : Nat := if t = 0 then 0 else 1
def pt_tz (t : Int32) : Prop := t = 0 ∨ ex_tok t
theorem xr_tz10 {post : Int32 → Prop} {t : Int32} (h1 : 1000 ≤ t ∧ t ≤ 100999 → post 1) (h0 : ¬ (1000 ≤ t ∧ t ≤ 100999) → post 0) : wX_isTokenOrZero_10 post t :=
  br_c (fun a => h0 (fun z => Int32.lt_irrefl (Int32.lt_of_lt_of_le a z.1))) (fun a => br_c (fun b => h0 (fun z => Int32.lt_irrefl (Int32.lt_of_lt_of_le b z.2))) (fun b => h1 ⟨Int32.not_lt.mp a, Int32.not_lt.mp b⟩))
theorem yr_tz11 {post : Int32 → Prop} {t : Int32} (h1 : 1000 ≤ t ∧ t ≤ 100999 → post 1) (h0 : ¬ (1000 ≤ t ∧ t ≤ 100999) → post 0) : wY_token_11 post t :=
  br_c (fun a => h0 (fun z => Int32.lt_irrefl (Int32.lt_of_lt_of_le a z.1))) (fun a => br_c (fun b => h0 (fun z => Int32.lt_irrefl (Int32.lt_of_lt_of_le b z.2))) (fun b => h1 ⟨Int32.not_lt.mp a, Int32.not_lt.mp b⟩))
theorem pt_1 {t : Int32} (h : ¬ t < 1) : 1 ≤ t := Int32.not_lt.mp h
theorem pt_01 {t : Int32} (h : ¬ t < 0) (h0 : ¬ t = 0) : 1 ≤ t := by
  obtain ⟨j, hj, rfl⟩ := nI_of h
  have : j ≠ 0 := by rintro rfl; exact h0 rfl
  rw [show (1 : Int32) = nI 1 from rfl, nI_leI (by omega) (by omega)]; omega
theorem xr_tz {post : Int32 → Prop} {t : Int32} (h1 : pt_tz t → post 1) (h0 : ¬ pt_tz t → post 0) : wpX_isTokenOrZero post t := by
  have hlt : ∀ {a : Int32}, t < a → 0 ≤ t → True := fun _ _ => trivial
  refine br_c (fun a => ?_) (fun a => br_c (fun b => ?_) (fun b => ?_))
  · refine xr_tz10 (fun z => h1 (Or.inr (Or.inr z))) (fun z => h0 ?_)
    rintro (rfl | ⟨c, _⟩ | c)
    · exact absurd a (by decide)
    · exact Int32.lt_irrefl (Int32.lt_of_lt_of_le a (Int32.le_trans (by decide : (0 : Int32) ≤ 1) c))
    · exact z c
  · by_cases e : t = 0
    · exact h1 (Or.inl e)
    · exact h1 (Or.inr (Or.inl ⟨pt_01 a e, b⟩))
  · refine xr_tz10 (fun z => h1 (Or.inr (Or.inr z))) (fun z => h0 ?_)
    rintro (rfl | ⟨_, c⟩ | c)
    · exact absurd (by decide) b
    · exact b c
    · exact z c
theorem yr_tz {post : Int32 → Prop} {t : Int32} (hn : ¬ t = 0) (h1 : pt_tz t → post 1) (h0 : ¬ pt_tz t → post 0) : wpY_token post t := by
  refine br_c (fun a => ?_) (fun a => br_c (fun b => ?_) (fun b => ?_))
  · refine yr_tz11 (fun z => h1 (Or.inr (Or.inr z))) (fun z => h0 ?_)
    rintro (c | ⟨c, _⟩ | c)
    · exact hn c
    · exact Int32.lt_irrefl (Int32.lt_of_lt_of_le a c)
    · exact z c
  · exact h1 (Or.inr (Or.inl ⟨pt_1 a, b⟩))
  · refine yr_tz11 (fun z => h1 (Or.inr (Or.inr z))) (fun z => h0 ?_)
    rintro (c | ⟨_, c⟩ | c)
    · exact hn c
    · exact b c
    · exact z c
section
variable {lm pn wp sr sc se fl sp pt sg el rs sn wy ya vv vt ot ra br : Int32} {en oc : Int64} {it le pe op kd nu co cl ap rd si bg ct ls hd hk hc vl tk cn lf la pc yb yh yk ho vs os : Nat → Int32}
variable {py : Int32}
theorem pt_add (t : Int32) (ht : pt_tz t) (np : Nat) (hnp : np + pt_cz t ≤ 16) (hcn : cn 0 = nI np) (hv : ∀ i, i < np → pe i = tk i ∧ ex_tok (tk i)) :
    ∃ pe' tk' cn' : Nat → Int32, cn' 0 = nI (np + pt_cz t) ∧ (∀ i, i < np + pt_cz t → pe' i = tk' i ∧ ex_tok (tk' i)) ∧ (∀ i, 16 ≤ i → tk' i = tk i) ∧ (∀ i, i ≠ 0 → cn' i = cn i) ∧
      (∀ post : SX → Prop, post (lm, nI (np + pt_cz t), wp, sr, sc, se, fl, sp, en, pt, sg, el, rs, sn, it, le, pe', op, kd, nu, co, cl, ap, rd, si, bg, ct, ls, hd, hk, hc, vl) → wpX_addToken post (lm, nI np, wp, sr, sc, se, fl, sp, en, pt, sg, el, rs, sn, it, le, pe, op, kd, nu, co, cl, ap, rd, si, bg, ct, ls, hd, hk, hc, vl) t) ∧ (∀ post : SY → Prop, post (lm, sr, sc, wy, py, ya, se, fl, vv, vt, ot, ra, br, oc, it, le, tk', cn', kd, nu, lf, la, pc, yb, yh, yk, ho, ap, rd, si, vs, os) → wpY_add post (lm, sr, sc, wy, py, ya, se, fl, vv, vt, ot, ra, br, oc, it, le, tk, cn, kd, nu, lf, la, pc, yb, yh, yk, ho, ap, rd, si, vs, os) t) := by
  unfold pt_cz at *
  by_cases h0 : t = 0
  · rw [if_pos h0] at *
    exact ⟨pe, tk, cn, hcn, hv, fun _ _ => rfl, fun _ _ => rfl, fun post h => br_t h0 h, fun post h => br_t h0 h⟩
  · rw [if_neg h0] at *
    have hn : np < 16 := by omega
    refine ⟨upd pe np t, upd tk np t, upd cn 0 (nI (np + 1)), pk_us, ?_, fun i hi => pk_un (by omega), fun i hi => pk_un hi, fun post h => ?_, fun post h => ?_⟩
    · intro i hi
      by_cases e : i = np
      · subst e
        rw [pk_us, pk_us]
        exact ⟨rfl, ht.resolve_left h0⟩
      · rw [pk_un e, pk_un e]
        exact hv i (by omega)
    · refine br_f h0 (br_f (nI_ge (b := 16) hn (by decide)) ⟨vp_in_nI hn (by omega), nm_r (by rw [nI_clamp (by omega)]) (nm_r (nI_1 _) h)⟩)
    · refine br_f h0 (nm_r (by rw [hcn, nI_1]) ⟨?_, nm_r (e' := upd tk np t) ?_ h⟩)
      · rw [hcn]; exact vp_in_nI (by omega) (by omega)
      · rw [hcn, nI_clamp (by omega)]
end
theorem rl_S_fr {sc : Int32} {kd nu co cl tk cn tk' cn' : Nat → Int32} (h : rl_S sc kd nu co cl tk cn) (h1 : ∀ i, 16 ≤ i → tk' i = tk i) (h2 : ∀ i, i ≠ 0 → cn' i = cn i) : rl_S sc kd nu co cl tk' cn' := by
  obtain ⟨S, a, b, c⟩ := h
  refine ⟨S, a, b, fun s hs => ?_⟩
  obtain ⟨k, d1, d2, d3, d4⟩ := c s hs
  refine ⟨k, d1, d2, d3, fun hx => ?_⟩
  obtain ⟨tq, N, e1, e2, e3, e4, e5, e6⟩ := d4 hx
  exact ⟨tq, N, e1, e2, by rw [h2 _ (by omega)]; exact e3, fun i hi => by rw [h1 _ (by omega)]; exact e4 i hi, e5, e6⟩
theorem pt_ci (t : Int32) (A : Int32 → Prop) (h : A (nI (pt_cz t))) : (t = 0 → A 0) ∧ (¬ t = 0 → A 1) := by
  unfold pt_cz at h
  refine br_c (fun z => ?_) (fun z => ?_)
  · rw [if_pos z] at h; exact h
  · rw [if_neg z] at h; exact h
section
variable {lm pn wp sr sc se fl sp pt sg el rs sn wy ya vv vt ot ra br : Int32} {en oc : Int64} {it le pe op kd nu co cl ap rd si bg ct ls hd hk hc vl tk cn lf la pc yb yh yk ho vs os : Nat → Int32}
theorem xr_put (a b c : Int32) {post : Int32 → SX → Prop} (G : pt_tz a → pt_tz b → pt_tz c → wX_put_51 post a b c (nI (pt_cz c)) (nI (pt_cz a) + nI (pt_cz b)) lm pn wp sr sc se fl sp en pt sg el rs sn it le pe op kd nu co cl ap rd si bg ct ls hd hk hc vl) (B : ¬ (pt_tz a ∧ pt_tz b ∧ pt_tz c) → post (-1) (lm, pn, wp, sr, sc, se, fl, sp, en, pt, sg, el, rs, sn, it, le, pe, op, kd, nu, co, cl, ap, rd, si, bg, ct, ls, hd, hk, hc, vl)) : wpX_put post (lm, pn, wp, sr, sc, se, fl, sp, en, pt, sg, el, rs, sn, it, le, pe, op, kd, nu, co, cl, ap, rd, si, bg, ct, ls, hd, hk, hc, vl) a b c := by
  unfold wpX_put
  refine xr_tz (fun g1 => ?_) (fun z => br_t rfl (B (fun w => z w.1)))
  refine br_f (by decide) ?_
  refine xr_tz (fun g2 => ?_) (fun z => br_t rfl (B (fun w => z w.2.1)))
  refine br_f (by decide) ?_
  refine xr_tz (fun g3 => ?_) (fun z => br_t rfl (B (fun w => z w.2.2)))
  refine br_f (by decide) ?_
  refine pt_ci a (fun z => wX_put_32 post a b c z lm pn wp sr sc se fl sp en pt sg el rs sn it le pe op kd nu co cl ap rd si bg ct ls hd hk hc vl) ?_
  refine pt_ci b (fun z => wX_put_41 post a b c z (nI (pt_cz a)) lm pn wp sr sc se fl sp en pt sg el rs sn it le pe op kd nu co cl ap rd si bg ct ls hd hk hc vl) ?_
  exact pt_ci c (fun z => wX_put_51 post a b c z (nI (pt_cz a) + nI (pt_cz b)) lm pn wp sr sc se fl sp en pt sg el rs sn it le pe op kd nu co cl ap rd si bg ct ls hd hk hc vl) (G g1 g2 g3)
theorem yr_put (a b c : Int32) {post : Int32 → SY → Prop} (G : pt_tz a → pt_tz b → pt_tz c → wY_put_64 post a b c (nI (pt_cz a) + nI (pt_cz b) + nI (pt_cz c)) lm sr sc wy sp ya se fl vv vt ot ra br oc it le tk cn kd nu lf la pc yb yh yk ho ap rd si vs os) (B : ¬ (pt_tz a ∧ pt_tz b ∧ pt_tz c) → post (-1) (lm, sr, sc, wy, sp, ya, se, fl, vv, vt, ot, ra, br, oc, it, le, tk, cn, kd, nu, lf, la, pc, yb, yh, yk, ho, ap, rd, si, vs, os)) : wpY_put post (lm, sr, sc, wy, sp, ya, se, fl, vv, vt, ot, ra, br, oc, it, le, tk, cn, kd, nu, lf, la, pc, yb, yh, yk, ho, ap, rd, si, vs, os) a b c := by
  unfold wpY_put
  have b68 : ¬ (pt_tz a ∧ pt_tz b ∧ pt_tz c) → wY_put_68 post a b c (nI (pt_cz a) + nI (pt_cz b) + nI (pt_cz c)) lm sr sc wy sp ya se fl vv vt ot ra br oc it le tk cn kd nu lf la pc yb yh yk ho ap rd si vs os := fun z => br_t rfl (B z)
  have g53 : pt_tz a → pt_tz b → wY_put_53 post a b c (nI (pt_cz a) + nI (pt_cz b) + nI (pt_cz c)) lm sr sc wy sp ya se fl vv vt ot ra br oc it le tk cn kd nu lf la pc yb yh yk ho ap rd si vs os := fun g1 g2 =>
    br_c (fun e => G g1 g2 (Or.inl e)) (fun hn => yr_tz hn (fun g3 => br_f (by decide) (G g1 g2 g3)) (fun z => br_t rfl (b68 (fun w => z w.2.2))))
  have g42 : pt_tz a → wY_put_42 post a b c (nI (pt_cz a) + nI (pt_cz b) + nI (pt_cz c)) lm sr sc wy sp ya se fl vv vt ot ra br oc it le tk cn kd nu lf la pc yb yh yk ho ap rd si vs os := fun g1 =>
    br_c (fun e => g53 g1 (Or.inl e)) (fun hn => yr_tz hn (fun g2 => br_f (by decide) (g53 g1 g2)) (fun z => br_t rfl (b68 (fun w => z w.2.1))))
  refine pt_ci a (fun z => wY_put_9 post a b c z lm sr sc wy sp ya se fl vv vt ot ra br oc it le tk cn kd nu lf la pc yb yh yk ho ap rd si vs os) ?_
  refine pt_ci b (fun z => wY_put_18 post a b c z (nI (pt_cz a)) lm sr sc wy sp ya se fl vv vt ot ra br oc it le tk cn kd nu lf la pc yb yh yk ho ap rd si vs os) ?_
  refine pt_ci c (fun z => wY_put_28 post a b c z (nI (pt_cz a) + nI (pt_cz b)) lm sr sc wy sp ya se fl vv vt ot ra br oc it le tk cn kd nu lf la pc yb yh yk ho ap rd si vs os) ?_
  exact nm_e (br_c (fun e => g42 (Or.inl e)) (fun hn => yr_tz hn (fun g1 => br_f (by decide) (g42 g1)) (fun z => br_t rfl (b68 (fun w => z w.1)))))
end
theorem i_vc_put {k : Nat} {u : SX} {v : SY} (I : i_Rel k u v) (hk : k + 4 ≤ 2049) (v1 : Int32) (v2 : Int32) (v3 : Int32) : wpX_put (fun r u' => wpY_put (fun r' v' => r' = r ∧ i_Rel (k + 4) u' v') v v1 v2 v3) u v1 v2 v3 := by
  have I' := i_up I
  obtain ⟨lm, pn, wp, sr, sc, se, fl, sp, py, pt, sg, el, rs, sn, ya, vv, vt, ot, ra, br, en, oc, it, le, pe, op, kd, nu, co, cl, ap, rd, si, bg, ct, ls, hd, hk, hc, vl, tk, cn, lf, la, pc, yb, yh, yk, ho, vs, os, rfl, rfl, hM, hP, hSr, hS, hL, hC, hA⟩ := I
  obtain ⟨np, hn1, rfl, hn3, hn4⟩ := hP
  have hz3 : nI (pt_cz v1) + nI (pt_cz v2) + nI (pt_cz v3) = nI (pt_cz v1 + pt_cz v2 + pt_cz v3) := by rw [nI_add, nI_add]
  have hcz : ∀ a : Int32, pt_cz a ≤ 1 := fun a => by unfold pt_cz; split <;> omega
  have c1 := hcz v1
  have c2 := hcz v2
  have c3 := hcz v3
  have hle : nI np + nI (pt_cz v1 + pt_cz v2 + pt_cz v3) ≤ 16 ↔ np + (pt_cz v1 + pt_cz v2 + pt_cz v3) ≤ 16 := by rw [nI_add, show (16 : Int32) = nI 16 from rfl, nI_leI (by omega) (by omega)]
  by_cases hg : (pt_tz v1 ∧ pt_tz v2 ∧ pt_tz v3) ∧ np + (pt_cz v1 + pt_cz v2 + pt_cz v3) ≤ 16
  · obtain ⟨⟨g1, g2, g3⟩, hs⟩ := hg
    obtain ⟨pe1, tk1, cn1, a1, a2, a3, a4, a5, a6⟩ := pt_add (lm := lm) (wp := wp) (sr := sr) (sc := sc) (se := se) (fl := fl) (sp := sp) (en := en) (pt := pt) (sg := sg) (el := el) (rs := rs) (sn := sn) (it := it) (le := le) (pe := pe) (op := op) (kd := kd) (nu := nu) (co := co) (cl := cl) (ap := ap) (rd := rd) (si := si) (bg := bg) (ct := ct) (ls := ls) (hd := hd) (hk := hk) (hc := hc) (vl := vl) (ya := ya) (vv := vv) (vt := vt) (ot := ot) (ra := ra) (br := br) (oc := oc) (tk := tk) (cn := cn) (lf := lf) (la := la) (pc := pc) (yb := yb) (yh := yh) (yk := yk) (ho := ho) (vs := vs) (os := os) (wy := wp) (py := py) v1 g1 np (by omega) hn3 hn4
    obtain ⟨pe2, tk2, cn2, b1, b2, b3, b4, b5, b6⟩ := pt_add (lm := lm) (wp := wp) (sr := sr) (sc := sc) (se := se) (fl := fl) (sp := sp) (en := en) (pt := pt) (sg := sg) (el := el) (rs := rs) (sn := sn) (it := it) (le := le) (op := op) (kd := kd) (nu := nu) (co := co) (cl := cl) (ap := ap) (rd := rd) (si := si) (bg := bg) (ct := ct) (ls := ls) (hd := hd) (hk := hk) (hc := hc) (vl := vl) (ya := ya) (vv := vv) (vt := vt) (ot := ot) (ra := ra) (br := br) (oc := oc) (lf := lf) (la := la) (pc := pc) (yb := yb) (yh := yh) (yk := yk) (ho := ho) (vs := vs) (os := os) (pe := pe1) (tk := tk1) (cn := cn1) (wy := wp) (py := py) v2 g2 _ (by omega) a1 a2
    obtain ⟨pe3, tk3, cn3, d1, d2, d3, d4, d5, d6⟩ := pt_add (lm := lm) (wp := wp) (sr := sr) (sc := sc) (se := se) (fl := fl) (sp := sp) (en := en) (pt := pt) (sg := sg) (el := el) (rs := rs) (sn := sn) (it := it) (le := le) (op := op) (kd := kd) (nu := nu) (co := co) (cl := cl) (ap := ap) (rd := rd) (si := si) (bg := bg) (ct := ct) (ls := ls) (hd := hd) (hk := hk) (hc := hc) (vl := vl) (ya := ya) (vv := vv) (vt := vt) (ot := ot) (ra := ra) (br := br) (oc := oc) (lf := lf) (la := la) (pc := pc) (yb := yb) (yh := yh) (yk := yk) (ho := ho) (vs := vs) (os := os) (pe := pe2) (tk := tk2) (cn := cn2) (wy := wp) (py := py) v3 g3 _ (by omega) b1 b2
    have hX : ∀ post : Int32 → SX → Prop, post (nI (np + pt_cz v1 + pt_cz v2 + pt_cz v3)) (lm, nI (np + pt_cz v1 + pt_cz v2 + pt_cz v3), wp, sr, sc, se, fl, sp, en, pt, sg, el, rs, sn, it, le, pe3, op, kd, nu, co, cl, ap, rd, si, bg, ct, ls, hd, hk, hc, vl) → wpX_put post (lm, nI np, wp, sr, sc, se, fl, sp, en, pt, sg, el, rs, sn, it, le, pe, op, kd, nu, co, cl, ap, rd, si, bg, ct, ls, hd, hk, hc, vl) v1 v2 v3 := fun post h =>
      xr_put v1 v2 v3 (fun _ _ _ => nm_r hz3 (br_t (hle.mpr hs) (a5 _ (b5 _ (d5 _ h))))) (fun z => absurd ⟨g1, g2, g3⟩ z)
    have hY : ∀ post : Int32 → SY → Prop, post (nI (np + pt_cz v1 + pt_cz v2 + pt_cz v3)) (lm, sr, sc, wp, py, ya, se, fl, vv, vt, ot, ra, br, oc, it, le, tk3, cn3, kd, nu, lf, la, pc, yb, yh, yk, ho, ap, rd, si, vs, os) → wpY_put post (lm, sr, sc, wp, py, ya, se, fl, vv, vt, ot, ra, br, oc, it, le, tk, cn, kd, nu, lf, la, pc, yb, yh, yk, ho, ap, rd, si, vs, os) v1 v2 v3 := fun post h => by
      refine yr_put v1 v2 v3 (fun _ _ _ => br_f (by decide) (br_t ?_ (a6 _ (b6 _ (d6 _ ?_))))) (fun z => absurd ⟨g1, g2, g3⟩ z)
      · rw [hn3, hz3]; exact hle.mpr hs
      · show post (cn3 0) _
        rw [d1]; exact h
    refine hX _ (hY _ ⟨rfl, ?_⟩)
    exact rl_mk _ hM ⟨_, by omega, rfl, d1, d2⟩ hSr (rl_S_fr hS (fun i hi => by rw [d3 i hi, b3 i hi, a3 i hi]) (fun i hi => by rw [d4 i hi, b4 i hi, a4 i hi])) hL hC hA
  · have hX : ∀ post : Int32 → SX → Prop, post (-1) (lm, nI np, wp, sr, sc, se, fl, sp, en, pt, sg, el, rs, sn, it, le, pe, op, kd, nu, co, cl, ap, rd, si, bg, ct, ls, hd, hk, hc, vl) → wpX_put post (lm, nI np, wp, sr, sc, se, fl, sp, en, pt, sg, el, rs, sn, it, le, pe, op, kd, nu, co, cl, ap, rd, si, bg, ct, ls, hd, hk, hc, vl) v1 v2 v3 := fun post h =>
      xr_put v1 v2 v3 (fun g1 g2 g3 => nm_r hz3 (br_f (fun z => hg ⟨⟨g1, g2, g3⟩, hle.mp z⟩) h)) (fun _ => h)
    have hY : ∀ post : Int32 → SY → Prop, post (-1) (lm, sr, sc, wp, py, ya, se, fl, vv, vt, ot, ra, br, oc, it, le, tk, cn, kd, nu, lf, la, pc, yb, yh, yk, ho, ap, rd, si, vs, os) → wpY_put post (lm, sr, sc, wp, py, ya, se, fl, vv, vt, ot, ra, br, oc, it, le, tk, cn, kd, nu, lf, la, pc, yb, yh, yk, ho, ap, rd, si, vs, os) v1 v2 v3 := fun post h => by
      refine yr_put v1 v2 v3 (fun g1 g2 g3 => br_f (by decide) (br_f ?_ h)) (fun _ => h)
      rw [hn3, hz3]; exact fun z => hg ⟨⟨g1, g2, g3⟩, hle.mp z⟩
    exact hX _ (hY _ ⟨rfl, I'⟩)
end
section
theorem st_17 {q : Nat} (hq : q ≤ 16) : q = 0 ∨ q = 1 ∨ q = 2 ∨ q = 3 ∨ q = 4 ∨ q = 5 ∨ q = 6 ∨ q = 7 ∨ q = 8 ∨ q = 9 ∨ q = 10 ∨ q = 11 ∨ q = 12 ∨ q = 13 ∨ q = 14 ∨ q = 15 ∨ q = 16 := by omega
theorem xr_hx {q : Nat} (hq : q ≤ 16) {post : Int32 → Prop} (h : post (ex_bi (rl_hx q))) : wpX_hasExpression post (nI q) := by
  rcases st_17 hq with rfl | rfl | rfl | rfl | rfl | rfl | rfl | rfl | rfl | rfl | rfl | rfl | rfl | rfl | rfl | rfl | rfl
  · exact br_f (by decide) (br_f (by decide) (br_t rfl h))
  · exact br_f (by decide) (br_f (by decide) (br_f (by decide) (br_t rfl h)))
  · exact br_f (by decide) (br_f (by decide) (br_f (by decide) (br_f (by decide) (br_t rfl h))))
  · exact br_f (by decide) (br_f (by decide) (br_f (by decide) (br_f (by decide) (br_f (by decide) (br_t rfl h)))))
  · exact br_f (by decide) (br_f (by decide) (br_f (by decide) (br_f (by decide) (br_f (by decide) (br_f (by decide) (br_t rfl h))))))
  · exact br_f (by decide) (br_f (by decide) (br_f (by decide) (br_f (by decide) (br_f (by decide) (br_f (by decide) (br_f (by decide) (br_t rfl h)))))))
  · exact br_f (by decide) (br_f (by decide) (br_f (by decide) (br_f (by decide) (br_f (by decide) (br_f (by decide) (br_f (by decide) (br_f (by decide) (br_t rfl h))))))))
  · exact br_f (by decide) (br_f (by decide) (br_f (by decide) (br_f (by decide) (br_f (by decide) (br_f (by decide) (br_f (by decide) (br_f (by decide) (br_f (by decide) (br_t rfl h)))))))))
  · exact br_f (by decide) (br_f (by decide) (br_f (by decide) (br_f (by decide) (br_f (by decide) (br_f (by decide) (br_f (by decide) (br_f (by decide) (br_f (by decide) (br_f (by decide) (br_t rfl h))))))))))
  · exact br_f (by decide) (br_f (by decide) (br_f (by decide) (br_f (by decide) (br_f (by decide) (br_f (by decide) (br_f (by decide) (br_f (by decide) (br_f (by decide) (br_f (by decide) (br_f (by decide) (br_t rfl h)))))))))))
  · exact br_f (by decide) (br_f (by decide) (br_f (by decide) (br_f (by decide) (br_f (by decide) (br_f (by decide) (br_f (by decide) (br_f (by decide) (br_f (by decide) (br_f (by decide) (br_f (by decide) (br_f (by decide) (br_t rfl h))))))))))))
  · exact br_f (by decide) (br_f (by decide) (br_f (by decide) (br_f (by decide) (br_f (by decide) (br_f (by decide) (br_f (by decide) (br_f (by decide) (br_f (by decide) (br_f (by decide) (br_f (by decide) (br_f (by decide) (br_f (by decide) (br_t rfl h)))))))))))))
  · exact br_f (by decide) (br_f (by decide) (br_f (by decide) (br_f (by decide) (br_f (by decide) (br_f (by decide) (br_f (by decide) (br_f (by decide) (br_f (by decide) (br_f (by decide) (br_f (by decide) (br_f (by decide) (br_f (by decide) (br_f (by decide) (br_t rfl h))))))))))))))
  · exact br_f (by decide) (br_f (by decide) (br_f (by decide) (br_f (by decide) (br_f (by decide) (br_f (by decide) (br_f (by decide) (br_f (by decide) (br_f (by decide) (br_f (by decide) (br_f (by decide) (br_f (by decide) (br_f (by decide) (br_f (by decide) (br_f (by decide) (br_t rfl h)))))))))))))))
  · exact br_f (by decide) (br_f (by decide) (br_f (by decide) (br_f (by decide) (br_f (by decide) (br_f (by decide) (br_f (by decide) (br_f (by decide) (br_f (by decide) (br_f (by decide) (br_f (by decide) (br_f (by decide) (br_f (by decide) (br_f (by decide) (br_f (by decide) (br_f (by decide) (br_t rfl h))))))))))))))))
  · exact br_f (by decide) (br_f (by decide) (br_f (by decide) (br_f (by decide) (br_f (by decide) (br_f (by decide) (br_f (by decide) (br_f (by decide) (br_f (by decide) (br_f (by decide) (br_f (by decide) (br_f (by decide) (br_f (by decide) (br_f (by decide) (br_f (by decide) (br_f (by decide) (br_f (by decide) (br_t rfl h)))))))))))))))))
  · exact br_f (by decide) (br_f (by decide) (br_f (by decide) (br_f (by decide) (br_f (by decide) (br_f (by decide) (br_f (by decide) (br_f (by decide) (br_f (by decide) (br_f (by decide) (br_f (by decide) (br_f (by decide) (br_f (by decide) (br_f (by decide) (br_f (by decide) (br_f (by decide) (br_f (by decide) (br_f (by decide) (br_t rfl h))))))))))))))))))
theorem yr_hx {q : Nat} (hq : q ≤ 16) {post : Int32 → Prop} (h : post (ex_bi (rl_hx q))) : wpY_hasExpression post (nI q) := by
  rcases st_17 hq with rfl | rfl | rfl | rfl | rfl | rfl | rfl | rfl | rfl | rfl | rfl | rfl | rfl | rfl | rfl | rfl | rfl
  · exact br_f (by decide) (br_f (by decide) (br_f (by decide) (br_f (by decide) (br_f (by decide) (br_f (by decide) (br_f (by decide) (br_f (by decide) h)))))))
  · exact br_f (by decide) (br_f (by decide) (br_f (by decide) (br_f (by decide) (br_f (by decide) (br_f (by decide) (br_f (by decide) (br_f (by decide) h)))))))
  · exact br_t rfl h
  · exact br_f (by decide) (br_t rfl h)
  · exact br_f (by decide) (br_f (by decide) (br_f (by decide) (br_f (by decide) (br_f (by decide) (br_f (by decide) (br_f (by decide) (br_f (by decide) h)))))))
  · exact br_f (by decide) (br_f (by decide) (br_f (by decide) (br_f (by decide) (br_f (by decide) (br_f (by decide) (br_f (by decide) (br_f (by decide) h)))))))
  · exact br_f (by decide) (br_f (by decide) (br_t rfl h))
  · exact br_f (by decide) (br_f (by decide) (br_f (by decide) (br_f (by decide) (br_f (by decide) (br_f (by decide) (br_f (by decide) (br_f (by decide) h)))))))
  · exact br_f (by decide) (br_f (by decide) (br_f (by decide) (br_t rfl h)))
  · exact br_f (by decide) (br_f (by decide) (br_f (by decide) (br_f (by decide) (br_t rfl h))))
  · exact br_f (by decide) (br_f (by decide) (br_f (by decide) (br_f (by decide) (br_f (by decide) (br_f (by decide) (br_f (by decide) (br_f (by decide) h)))))))
  · exact br_f (by decide) (br_f (by decide) (br_f (by decide) (br_f (by decide) (br_f (by decide) (br_t rfl h)))))
  · exact br_f (by decide) (br_f (by decide) (br_f (by decide) (br_f (by decide) (br_f (by decide) (br_f (by decide) (br_f (by decide) (br_f (by decide) h)))))))
  · exact br_f (by decide) (br_f (by decide) (br_f (by decide) (br_f (by decide) (br_f (by decide) (br_f (by decide) (br_t rfl h))))))
  · exact br_f (by decide) (br_f (by decide) (br_f (by decide) (br_f (by decide) (br_f (by decide) (br_f (by decide) (br_f (by decide) (br_f (by decide) h)))))))
  · exact br_f (by decide) (br_f (by decide) (br_f (by decide) (br_f (by decide) (br_f (by decide) (br_f (by decide) (br_f (by decide) (br_t rfl h)))))))
  · exact br_f (by decide) (br_f (by decide) (br_f (by decide) (br_f (by decide) (br_f (by decide) (br_f (by decide) (br_f (by decide) (br_f (by decide) h)))))))
def st_gd (k c : Int32) : Prop := (k = 6 → 1 ≤ c ∧ c ≤ 4) ∧ (k = 9 ∨ k = 10 ∨ k = 11 → ∃ j : Nat, j < 3 ∧ c = nI j)
theorem st_nl {c : Int32} (h : c < 0 ∨ nI 3 ≤ c) : ¬ ∃ j : Nat, j < 3 ∧ c = nI j := by
  rintro ⟨j, hj, rfl⟩
  rcases h with h | h
  · exact absurd h (nI_pos (by omega))
  · exact absurd h (nI_ge hj (by omega))
theorem xr_num {k c : Int32} {post : Int32 → Prop} (h1 : st_gd k c → post 1) (h0 : ¬ st_gd k c → post 0) : wpX_isNumberFor post k c := by
  have h40 : ¬ k = 6 → (k = 9 ∨ k = 10 ∨ k = 11) → wX_isNumberFor_40 post c := by
    intro h6 h9
    rcases rl_ix c with hx | ⟨j, hj, rfl⟩
    · exact xr_noList hx ⟨by decide, h0 (fun z => st_nl hx (z.2 h9))⟩
    · exact xr_isList hj rfl ⟨by decide, h1 ⟨fun z => absurd z h6, fun _ => ⟨j, hj, rfl⟩⟩⟩
  refine br_c (fun h6 => ?_) (fun h6 => br_c (fun h9 => h40 h6 (Or.inl h9)) (fun h9 => br_c (fun h10 => h40 h6 (Or.inr (Or.inl h10))) (fun h10 => br_c (fun h11 => h40 h6 (Or.inr (Or.inr h11))) (fun h11 => ?_))))
  · subst h6
    refine br_c (fun a => h0 (fun z => Int32.lt_irrefl (Int32.lt_of_lt_of_le a (z.1 rfl).1))) (fun a => br_c (fun b => h0 (fun z => Int32.lt_irrefl (Int32.lt_of_lt_of_le b (z.1 rfl).2))) (fun b => h1 ⟨fun _ => ⟨Int32.not_lt.mp a, Int32.not_lt.mp b⟩, fun z => absurd z (by decide)⟩))
  · exact h1 ⟨fun z => absurd z h6, fun z => by rcases z with z | z | z <;> contradiction⟩
section
variable {lm pn wp sr sc se fl sp pt sg el rs sn wy ya vv vt ot ra br : Int32} {en oc : Int64} {it le pe op kd nu co cl ap rd si bg ct ls hd hk hc vl tk cn lf la pc yb yh yk ho vs os : Nat → Int32}
theorem yr_num {k c : Int32} {post : Int32 → SY → Prop} (h1 : st_gd k c → wY_stage_70 post k c (sc + 1) 1 lm sr sc (-1) sp ya se fl vv vt ot ra br oc it le tk cn kd nu lf la pc yb yh yk ho ap rd si vs os) (h0 : ¬ st_gd k c → wY_stage_70 post k c (sc + 1) 0 lm sr sc (-1) sp ya se fl vv vt ot ra br oc it le tk cn kd nu lf la pc yb yh yk ho ap rd si vs os) : wpY_stage post (lm, sr, sc, wy, sp, ya, se, fl, vv, vt, ot, ra, br, oc, it, le, tk, cn, kd, nu, lf, la, pc, yb, yh, yk, ho, ap, rd, si, vs, os) k c := by
  have h36 : (k = 6 ∨ k = 9 ∨ k = 10 ∨ k = 11) → wY_stage_36 post k c (sc + 1) lm sr sc (-1) sp ya se fl vv vt ot ra br oc it le tk cn kd nu lf la pc yb yh yk ho ap rd si vs os := by
    intro hk
    refine br_c (fun h6 => ?_) (fun h6 => br_f h6 ?_)
    · have h52 : ¬ (1 ≤ c ∧ c ≤ 4) → wY_stage_52 post k c (sc + 1) lm sr sc (-1) sp ya se fl vv vt ot ra br oc it le tk cn kd nu lf la pc yb yh yk ho ap rd si vs os := fun z => br_t h6 (h0 (fun w => z (w.1 h6)))
      refine br_c (fun a => h52 (fun z => Int32.lt_irrefl (Int32.lt_of_lt_of_le a z.1))) (fun a => br_c (fun b => h1 ?_) (fun b => h52 (fun z => b z.2)))
      subst h6
      exact ⟨fun _ => ⟨Int32.not_lt.mp a, b⟩, fun z => absurd z (by decide)⟩
    · have h9 : k = 9 ∨ k = 10 ∨ k = 11 := hk.resolve_left h6
      rcases rl_ix c with hx | ⟨j, hj, rfl⟩
      · exact yr_noList hx (br_t rfl (h0 (fun z => st_nl hx (z.2 h9))))
      · exact yr_isList hj rfl (br_f (by decide) (h1 ⟨fun z => absurd z h6, fun _ => ⟨j, hj, rfl⟩⟩))
  unfold wpY_stage
  exact nm_e (br_c (fun a => h36 (Or.inl a)) (fun a => br_c (fun b => h36 (Or.inr (Or.inl b))) (fun b => br_c (fun d => h36 (Or.inr (Or.inr (Or.inl d)))) (fun d => br_c (fun e => h36 (Or.inr (Or.inr (Or.inr e)))) (fun e => h1 ⟨fun z => absurd z a, fun z => by rcases z with z | z | z <;> contradiction⟩)))))
variable {py : Int32}
theorem st_find (q : Nat) (hq : q ≤ 16) (np : Nat) (hn1 : np ≤ 16) (hcn : cn 0 = nI np) (hv : ∀ i, i < np → pe i = tk i ∧ ex_tok (tk i)) (hos : os 0 = 0) :
    ∃ (res : Int32) (os' : Nat → Int32), ((res = -1 ∧ (rl_hx q = true → ex_WF tk np) ∧ (rl_hx q = false → np = 0)) ∨ ¬ res < 0) ∧
      (∀ post : Int32 → Prop, post res → wpX_findWrongPlace post (lm, pn, wp, sr, sc, se, fl, sp, en, pt, sg, el, rs, sn, it, le, pe, op, kd, nu, co, cl, ap, rd, si, bg, ct, ls, hd, hk, hc, vl) (nI q) (nI np)) ∧
      (∀ (post : Int32 → SY → Prop) (c x3 : Int32), wY_stage_160 post (nI q) c x3 res lm sr sc wy py ya se fl vv vt ot ra br oc it le tk cn kd nu lf la pc yb yh yk ho ap rd si vs os' → wpY_hasExpression (fun r_28 => (((r_28 = 0 → ((((cn 0) ≤ 0 → (wY_stage_160 post (nI q) c x3 (-1) lm sr sc wy py ya se fl vv vt ot ra br oc it le tk cn kd nu lf la pc yb yh yk ho ap rd si vs os)) ∧ (¬ (cn 0) ≤ 0 → (wY_stage_160 post (nI q) c x3 0 lm sr sc wy py ya se fl vv vt ot ra br oc it le tk cn kd nu lf la pc yb yh yk ho ap rd si vs os))))) ∧ (¬ r_28 = 0 → ((((nI q) = 10 → (wY_stage_135 post (nI q) c x3 lm sr sc wy py ya se fl vv vt ot ra br oc it le tk cn kd nu lf la pc yb yh yk ho ap rd si vs os)) ∧ (¬ (nI q) = 10 → ((((nI q) = 12 → (wY_stage_135 post (nI q) c x3 lm sr sc wy py ya se fl vv vt ot ra br oc it le tk cn kd nu lf la pc yb yh yk ho ap rd si vs os)) ∧ (¬ (nI q) = 12 → (wY_stage_140 post (nI q) c x3 0 lm sr sc wy py ya se fl vv vt ot ra br oc it le tk cn kd nu lf la pc yb yh yk ho ap rd si vs os))))))))))) (nI q)) := by
  cases hx : rl_hx q with
  | false =>
    by_cases h0 : np = 0
    · subst h0
      refine ⟨-1, os, Or.inl ⟨rfl, fun z => absurd z (by simp), fun _ => rfl⟩, fun post h => ?_, fun post c x3 h => ?_⟩
      · unfold wpX_findWrongPlace
        refine xr_hx hq ?_
        rw [hx]
        exact br_t rfl (br_t (show nI 0 ≤ 0 from by decide) h)
      · refine yr_hx hq ?_
        rw [hx]
        exact br_t rfl (br_t (by rw [hcn]; decide) h)
    · refine ⟨0, os, Or.inr (by decide), fun post h => ?_, fun post c x3 h => ?_⟩
      · unfold wpX_findWrongPlace
        refine xr_hx hq ?_
        rw [hx]
        exact br_t rfl (br_f (nI_nle (by omega) (by omega)) h)
      · refine yr_hx hq ?_
        rw [hx]
        exact br_t rfl (br_f (by rw [hcn]; exact nI_nle (by omega) (by omega)) h)
  | true =>
    have hR : mk_R 0 os (ex_ct (ex_cs tk 0).2.1) := by
      intro d hd
      have : d = 0 := by
        have e : ex_ct (ex_cs tk 0).2.1 = 0 := rfl
        omega
      subst this
      rw [hos, b_0]
      decide
    obtain ⟨jn, hjn⟩ : ∃ jn : Int32, jn = if q = 10 ∨ q = 12 then 1 else 0 := ⟨_, rfl⟩
    obtain ⟨res, os', g1, g2, g3⟩ := fw_lock (lm := lm) (pn := pn) (wp := wp) (sr := sr) (sc := sc) (se := se) (fl := fl) (sp := sp) (en := en) (pt := pt) (sg := sg) (el := el) (rs := rs) (sn := sn) (it := it) (le := le) (pe := pe) (op := op) (kd := kd) (nu := nu) (co := co) (cl := cl) (ap := ap) (rd := rd) (si := si) (bg := bg) (ct := ct) (ls := ls) (hd := hd) (hk := hk) (hc := hc) (vl := vl) (wy := wy) (ya := ya) (vv := vv) (vt := vt) (ot := ot) (ra := ra) (br := br) (oc := oc) (tk := tk) (cn := cn) (lf := lf) (la := la) (pc := pc) (yb := yb) (yh := yh) (yk := yk) (ho := ho) (vs := vs) (py := py) np hn1 tk (fun i hi => (hv i hi).2) (fun i hi => (hv i hi).1) (fun _ _ => rfl) hcn jn np 0 (by omega) (fun j hj => absurd hj (by omega)) 0 os hR
    refine ⟨res, os', g1.imp (fun z => ⟨z.1, fun _ => z.2, fun w => absurd w (by simp)⟩) id, fun post h => ?_, fun post c x3 h => ?_⟩
    · have h34 : wX_findWrongPlace_34 post (nI np) jn lm pn wp sr sc se fl sp en pt sg el rs sn it le pe op kd nu co cl ap rd si bg ct ls hd hk hc vl := ⟨_, g2 post _ (Nat.lt_succ_self _) h⟩
      unfold wpX_findWrongPlace
      refine xr_hx hq ?_
      rw [hx]
      refine br_f (by decide) (br_c (fun e => ?_) (fun e => br_c (fun e2 => ?_) (fun e2 => ?_)))
      · have : q = 10 := (nI_eq (b := 10) (by omega) (by omega)).mp e
        rw [if_pos (Or.inl this)] at hjn; rw [hjn] at h34; exact h34
      · have : q = 12 := (nI_eq (b := 12) (by omega) (by omega)).mp e2
        rw [if_pos (Or.inr this)] at hjn; rw [hjn] at h34; exact h34
      · rw [if_neg (by rintro (rfl | rfl); exact e rfl; exact e2 rfl)] at hjn; rw [hjn] at h34; exact h34
    · have h140 : wY_stage_140 post (nI q) c x3 jn lm sr sc wy py ya se fl vv vt ot ra br oc it le tk cn kd nu lf la pc yb yh yk ho ap rd si vs os := ⟨_, g3 _ _ (Nat.lt_succ_self _) h⟩
      refine yr_hx hq ?_
      rw [hx]
      refine br_f (by decide) (br_c (fun e => ?_) (fun e => br_c (fun e2 => ?_) (fun e2 => ?_)))
      · have : q = 10 := (nI_eq (b := 10) (by omega) (by omega)).mp e
        rw [if_pos (Or.inl this)] at hjn; rw [hjn] at h140; exact h140
      · have : q = 12 := (nI_eq (b := 12) (by omega) (by omega)).mp e2
        rw [if_pos (Or.inr this)] at hjn; rw [hjn] at h140; exact h140
      · rw [if_neg (by rintro (rfl | rfl); exact e rfl; exact e2 rfl)] at hjn; rw [hjn] at h140; exact h140
theorem st_copy (S : Nat) (hS : S < 8) (np : Nat) (hn1 : np ≤ 16) (hcn : cn 0 = nI np) (k c : Int32) (tk : Nat → Int32) : ∀ (r i : Nat), i + r = np → ∀ tk1 : Nat → Int32, (∀ j, j < i → tk1 (16 * (S + 1) + j) = tk j) → (∀ j, (j < 16 * (S + 1) ∨ 16 * (S + 1) + 16 ≤ j) → tk1 j = tk j) →
    ∃ tk2 : Nat → Int32, (∀ j, j < np → tk2 (16 * (S + 1) + j) = tk j) ∧ (∀ j, (j < 16 * (S + 1) ∨ 16 * (S + 1) + 16 ≤ j) → tk2 j = tk j) ∧
      ∀ (post : Int32 → SY → Prop) (n : Nat), r < n → post (nI (S + 1)) (lm, sr, nI (S + 1), wy, sp, ya, se, fl, vv, vt, ot, ra, br, oc, it, le, tk2, upd (upd cn (S + 1) (nI np)) 0 0, upd kd S k, upd nu S c, lf, la, pc, yb, yh, yk, ho, ap, rd, si, vs, os) → wY_stage_180 post k c (nI (S + 1)) lm sr (nI S) wy sp ya se fl vv vt ot ra br oc n (nI i) it le tk1 cn kd nu lf la pc yb yh yk ho ap rd si vs os := by
  intro r
  induction r with
  | zero =>
    intro i hi tk1 h1 h2
    have : i = np := by omega
    subst this
    refine ⟨tk1, h1, h2, fun post n hn h => ?_⟩
    obtain ⟨m, rfl⟩ : ∃ m, n = m + 1 := ⟨n - 1, by omega⟩
    have hS1 : vp_in (nI S) 8 := vp_in_nI hS (by omega)
    refine br_t ?_ ⟨vp_in_nI (by omega) (by omega), nm_r ?_ ⟨hS1, nm_r ?_ ⟨hS1, nm_r ?_ (nm_r (nI_1 _) (nm_e h))⟩⟩⟩
    · rw [hcn]; exact Int32.le_refl _
    · rw [hcn, nI_clamp (by omega)]
    · rw [nI_clamp (by omega)]
    · rw [nI_clamp (by omega)]
  | succ r IH =>
    intro i hi tk1 h1 h2
    have hix : 16 * nI (S + 1) + nI i = nI (16 * (S + 1) + i) := by
      rw [show (16 : Int32) = nI 16 from rfl, pk_mul, nI_add]
    obtain ⟨tk2, g1, g2, g3⟩ := IH (i + 1) (by omega) (upd tk1 (16 * (S + 1) + i) (tk1 i)) (by
      intro j hj
      by_cases e : j = i
      · subst e; rw [pk_us]; exact h2 j (Or.inl (by omega))
      · rw [pk_un (by omega)]; exact h1 j (by omega)) (by
      intro j hj
      rw [pk_un (by omega)]; exact h2 j hj)
    refine ⟨tk2, g1, g2, fun post n hn h => ?_⟩
    obtain ⟨m, rfl⟩ : ∃ m, n = m + 1 := ⟨n - 1, by omega⟩
    refine br_f ?_ ⟨vp_in_nI (by omega) (by omega), ?_, nm_r ?_ (nm_r (nI_1 _) (g3 post m (by omega) h))⟩
    · rw [hcn]; exact nI_ge (by omega) (by omega)
    · rw [hix]; exact vp_in_nI (by omega) (by omega)
    · rw [hix, nI_clamp (by omega), nI_clamp (by omega)]
end
end
section
theorem st_hA {ra : Int32} {ap rd : Nat → Int32} (h : rl_A ra ap rd) : rl_A ra ap rd := h
theorem st_P0 {pe tk cn : Nat → Int32} : rl_P 0 pe tk (upd cn 0 0) := ⟨0, by omega, rfl, pk_us, fun i hi => absurd hi (by omega)⟩
theorem st_S0 {sc : Int32} {kd nu co cl tk cn : Nat → Int32} (h : rl_S sc kd nu co cl tk cn) : rl_S sc kd nu co cl tk (upd cn 0 0) := rl_S_fr h (fun _ _ => rfl) (fun _ hi => pk_un hi)
theorem i_vc_stage {k : Nat} {u : SX} {v : SY} (I : i_Rel k u v) (hk : k + 4 ≤ 2049) (v1 : Int32) (v2 : Int32) : wpX_stage (fun r u' => wpY_stage (fun r' v' => r' = r ∧ i_Rel (k + 4) u' v') v v1 v2) u v1 v2 := by
  obtain ⟨lm, pn, wp, sr, sc, se, fl, sp, py, pt, sg, el, rs, sn, ya, vv, vt, ot, ra, br, en, oc, it, le, pe, op, kd, nu, co, cl, ap, rd, si, bg, ct, ls, hd, hk, hc, vl, tk, cn, lf, la, pc, yb, yh, yk, ho, vs, os, rfl, rfl, hM, hP, hSr, hS, hL, hC, hA⟩ := I
  obtain ⟨np, hn1, rfl, hn3, hn4⟩ := hP
  have hS' := hS
  obtain ⟨S, hS1, rfl, hS2⟩ := hS
  by_cases hgood : (¬ v1 < 0 ∧ ¬ 16 < v1) ∧ st_gd v1 v2
  · obtain ⟨⟨ha, hb⟩, hg⟩ := hgood
    by_cases h8 : S = 8
    · subst h8
      have hX : ∀ post : Int32 → SX → Prop, post (-2) (lm, 0, -1, sr, nI 8, se, fl, sp, en, pt, sg, el, rs, sn, it, le, pe, op, kd, nu, co, cl, ap, rd, si, bg, ct, ls, hd, hk, hc, vl) → wpX_stage post (lm, nI np, wp, sr, nI 8, se, fl, sp, en, pt, sg, el, rs, sn, it, le, pe, op, kd, nu, co, cl, ap, rd, si, bg, ct, ls, hd, hk, hc, vl) v1 v2 := fun post h =>
        br_f ha (br_f hb (xr_num (fun _ => br_f (by decide) (br_f (by decide) h)) (fun z => absurd hg z)))
      have hY : ∀ post : Int32 → SY → Prop, post (-2) (lm, sr, nI 8, -1, py, ya, se, fl, vv, vt, ot, ra, br, oc, it, le, tk, upd cn 0 0, kd, nu, lf, la, pc, yb, yh, yk, ho, ap, rd, si, vs, upd os 0 0) → wpY_stage post (lm, sr, nI 8, wp, py, ya, se, fl, vv, vt, ot, ra, br, oc, it, le, tk, cn, kd, nu, lf, la, pc, yb, yh, yk, ho, ap, rd, si, vs, os) v1 v2 := fun post h =>
        yr_num (fun _ => nm_e (br_f ha (br_f hb (br_f (by decide) (br_t rfl (br_t (by decide) (nm_e h))))))) (fun z => absurd hg z)
      exact hX _ (hY _ ⟨rfl, rl_mk _ hM st_P0 hSr (st_S0 hS') hL hC hA⟩)
    · have hS8 : S < 8 := by omega
      obtain ⟨q, hq, rfl⟩ := nI_of2 (M := 16) (n := 16) (by decide) ha (Int32.not_lt.mp hb)
      have hlt8 : nI S < 8 := nI_lt (b := 8) hS8 (by decide)
      have hne8 : ¬ nI S = 8 := by rw [show (8 : Int32) = nI 8 from rfl, nI_eq (by omega) (by omega)]; exact h8
      obtain ⟨res, os', g1, g2, g3⟩ := st_find (lm := lm) (sr := sr) (se := se) (fl := fl) (sp := sp) (en := en) (pt := pt) (sg := sg) (el := el) (rs := rs) (sn := sn) (it := it) (le := le) (pe := pe) (op := op) (kd := kd) (nu := nu) (co := co) (cl := cl) (ap := ap) (rd := rd) (si := si) (bg := bg) (ct := ct) (ls := ls) (hd := hd) (hk := hk) (hc := hc) (vl := vl) (ya := ya) (vv := vv) (vt := vt) (ot := ot) (ra := ra) (br := br) (oc := oc) (tk := tk) (cn := cn) (lf := lf) (la := la) (pc := pc) (yb := yb) (yh := yh) (yk := yk) (ho := ho) (vs := vs) (py := py) (pn := 0) (wp := -1) (sc := nI S) (wy := -1) (os := upd os 0 0) q hq np hn1 hn3 hn4 pk_us
      rcases g1 with ⟨rfl, hw, hz⟩ | hres
      · -- the stage is taken
        have hl : ∀ i, i < np → ex_leg (tk i) (ex_cs tk i).1 (ex_cs tk i).2.1 := by
          cases hx : rl_hx q with
          | true => exact (hw hx).1
          | false => intro i hi; have := hz hx; omega
        have hlay0 : ex_lay co (16 * S) (ex_cs tk 0).2.2 := by intro i t h; simp [ex_cs] at h
        obtain ⟨op', co', cl', t1, t2, t3, t4, t5⟩ := xr_trans (lm := lm) (sr := sr) (se := se) (fl := fl) (sp := sp) (en := en) (pt := pt) (sg := sg) (el := el) (rs := rs) (sn := sn) (it := it) (le := le) (pe := pe) (ap := ap) (rd := rd) (si := si) (bg := bg) (ct := ct) (ls := ls) (hd := hd) (hk := hk) (hc := hc) (vl := vl) (pn := 0) (wp := -1) (sc := nI S) (kd := upd kd S (nI q)) (nu := upd nu S v2) S hS8 tk np hn1 (fun i hi => (hn4 i hi).1) hl np 0 (by omega) op co (upd cl S 0) trivial hlay0 (by rw [pk_us]; rfl)
        obtain ⟨tk2, y1, y2, y3⟩ := st_copy (lm := lm) (sr := sr) (ya := ya) (se := se) (fl := fl) (vv := vv) (vt := vt) (ot := ot) (ra := ra) (br := br) (oc := oc) (it := it) (le := le) (kd := kd) (nu := nu) (lf := lf) (la := la) (pc := pc) (yb := yb) (yh := yh) (yk := yk) (ho := ho) (ap := ap) (rd := rd) (si := si) (vs := vs) (cn := cn) (sp := py) (wy := -1) (os := os') S hS8 np hn1 hn3 (nI q) v2 tk np 0 (by omega) tk (fun j hj => absurd hj (by omega)) (fun _ _ => rfl)
        have hcS : (nI S).toNatClampNeg = S := nI_clamp (by omega)
        have hiS : vp_in (nI S) 8 := vp_in_nI hS8 (by omega)
        have hX : ∀ post : Int32 → SX → Prop, post (nI (S + 1)) (lm, 0, -1, sr, nI (S + 1), se, fl, sp, en, pt, sg, el, rs, sn, it, le, pe, op', upd kd S (nI q), upd nu S v2, co', cl', ap, rd, si, bg, ct, ls, hd, hk, hc, vl) → wpX_stage post (lm, nI np, wp, sr, nI S, se, fl, sp, en, pt, sg, el, rs, sn, it, le, pe, op, kd, nu, co, cl, ap, rd, si, bg, ct, ls, hd, hk, hc, vl) (nI q) v2 := fun post h => by
          refine br_f ha (br_f hb (xr_num (fun _ => br_f (by decide) (br_t hlt8 (g2 _ ?_))) (fun z => absurd hg z)))
          refine br_t (by decide) ⟨hiS, nm_r (e' := upd kd S (nI q)) (by rw [hcS]) ⟨hiS, nm_r (e' := upd nu S v2) (by rw [hcS]) ⟨hiS, nm_r (e' := upd cl S 0) (by rw [hcS]) ⟨_, t5 _ _ (Nat.lt_succ_self _) (nm_r (nI_1 _) h)⟩⟩⟩⟩
        have hY : ∀ post : Int32 → SY → Prop, post (nI (S + 1)) (lm, sr, nI (S + 1), -1, py, ya, se, fl, vv, vt, ot, ra, br, oc, it, le, tk2, upd (upd cn (S + 1) (nI np)) 0 0, upd kd S (nI q), upd nu S v2, lf, la, pc, yb, yh, yk, ho, ap, rd, si, vs, os') → wpY_stage post (lm, sr, nI S, wp, py, ya, se, fl, vv, vt, ot, ra, br, oc, it, le, tk, cn, kd, nu, lf, la, pc, yb, yh, yk, ho, ap, rd, si, vs, os) (nI q) v2 := fun post h => by
          refine yr_num (fun _ => nm_e (br_f ha (br_f hb (br_f (by decide) (br_f hne8 (g3 post v2 _ ?_)))))) (fun z => absurd hg z)
          rw [nI_1]
          exact br_t (by decide) (br_f (nI_nle (by omega) (by omega)) ⟨_, y3 post _ (Nat.lt_succ_self _) h⟩)
        refine hX _ (hY _ ⟨rfl, rl_mk _ hM st_P0 hSr ⟨S + 1, by omega, rfl, fun s hs => ?_⟩ hL hC hA⟩)
        have hcn' : ∀ i, i ≠ 0 → i ≠ S + 1 → upd (upd cn (S + 1) (nI np)) 0 0 i = cn i := fun i h1 h2 => by rw [pk_un h1, pk_un h2]
        by_cases e : s = S
        · subst e
          refine ⟨q, hq, pk_us, fun h => ?_, fun hx => ?_⟩
          · rw [pk_us]
            refine hg.2 ?_
            rcases h with rfl | rfl | rfl
            · exact Or.inl rfl
            · exact Or.inr (Or.inl rfl)
            · exact Or.inr (Or.inr rfl)
          · exact ⟨tk, np, hn1, hw hx, by rw [pk_un (by omega), pk_us], y1, t1, t2⟩
        · obtain ⟨k2, d1, d2, d3, d4⟩ := hS2 s (by omega)
          refine ⟨k2, d1, by rw [pk_un e]; exact d2, fun h => by rw [pk_un e]; exact d3 h, fun hx => ?_⟩
          obtain ⟨tq, N, e1, e2, e3, e4, e5, e6⟩ := d4 hx
          have hlen : (ex_code tq N).length ≤ 16 := by
            have := (ex_fin e2).2.2.2.2
            simp at this
            omega
          refine ⟨tq, N, e1, e2, by rw [hcn' _ (by omega) (by omega)]; exact e3, fun i hi => by rw [y2 _ (by omega)]; exact e4 i hi, fun i t ht => ?_, by rw [t4 s e, pk_un e]; exact e6⟩
          have hi := (List.getElem?_eq_some_iff.mp ht).1
          rw [t3 _ (by omega)]
          exact e5 i t ht
      · have hX : ∀ post : Int32 → SX → Prop, post (-3) (lm, 0, res, sr, nI S, se, fl, sp, en, pt, sg, el, rs, sn, it, le, pe, op, kd, nu, co, cl, ap, rd, si, bg, ct, ls, hd, hk, hc, vl) → wpX_stage post (lm, nI np, wp, sr, nI S, se, fl, sp, en, pt, sg, el, rs, sn, it, le, pe, op, kd, nu, co, cl, ap, rd, si, bg, ct, ls, hd, hk, hc, vl) (nI q) v2 := fun post h =>
          br_f ha (br_f hb (xr_num (fun _ => br_f (by decide) (br_t hlt8 (g2 _ (br_f hres h)))) (fun z => absurd hg z)))
        have hY : ∀ post : Int32 → SY → Prop, post (-3) (lm, sr, nI S, res, py, ya, se, fl, vv, vt, ot, ra, br, oc, it, le, tk, upd cn 0 0, kd, nu, lf, la, pc, yb, yh, yk, ho, ap, rd, si, vs, os') → wpY_stage post (lm, sr, nI S, wp, py, ya, se, fl, vv, vt, ot, ra, br, oc, it, le, tk, cn, kd, nu, lf, la, pc, yb, yh, yk, ho, ap, rd, si, vs, os) (nI q) v2 := fun post h =>
          yr_num (fun _ => nm_e (br_f ha (br_f hb (br_f (by decide) (br_f hne8 (g3 post v2 _ (br_f hres (br_t (by decide) (nm_e h))))))))) (fun z => absurd hg z)
        exact hX _ (hY _ ⟨rfl, rl_mk _ hM st_P0 hSr (st_S0 hS') hL hC hA⟩)
  · have hX : ∀ post : Int32 → SX → Prop, post (-1) (lm, 0, -1, sr, nI S, se, fl, sp, en, pt, sg, el, rs, sn, it, le, pe, op, kd, nu, co, cl, ap, rd, si, bg, ct, ls, hd, hk, hc, vl) → wpX_stage post (lm, nI np, wp, sr, nI S, se, fl, sp, en, pt, sg, el, rs, sn, it, le, pe, op, kd, nu, co, cl, ap, rd, si, bg, ct, ls, hd, hk, hc, vl) v1 v2 := fun post h =>
      br_c (fun _ => h) (fun ha => br_c (fun _ => h) (fun hb => xr_num (fun hg => absurd ⟨⟨ha, hb⟩, hg⟩ hgood) (fun _ => br_t rfl h)))
    have hY : ∀ post : Int32 → SY → Prop, post (-1) (lm, sr, nI S, -1, py, ya, se, fl, vv, vt, ot, ra, br, oc, it, le, tk, upd cn 0 0, kd, nu, lf, la, pc, yb, yh, yk, ho, ap, rd, si, vs, upd os 0 0) → wpY_stage post (lm, sr, nI S, wp, py, ya, se, fl, vv, vt, ot, ra, br, oc, it, le, tk, cn, kd, nu, lf, la, pc, yb, yh, yk, ho, ap, rd, si, vs, os) v1 v2 := fun post h => by
      have h94 : wY_stage_94 post v1 v2 lm sr (nI S) (-1) py ya se fl vv vt ot ra br oc it le tk cn kd nu lf la pc yb yh yk ho ap rd si vs (upd os 0 0) := br_t (by decide) (nm_e h)
      exact yr_num (fun hg => nm_e (br_c (fun _ => h94) (fun ha => br_c (fun _ => h94) (fun hb => absurd ⟨⟨ha, hb⟩, hg⟩ hgood)))) (fun _ => nm_e (br_c (fun _ => h94) (fun _ => br_c (fun _ => h94) (fun _ => br_t rfl h94))))
    exact hX _ (hY _ ⟨rfl, rl_mk _ hM st_P0 hSr (st_S0 hS') hL hC hA⟩)
end
section
/-! costs: reading and applying, both sides at once -/
section
variable {lm pn wp sr sc se fl sp pt sg el rs sn wy ya vv vt ot ra br : Int32} {en oc : Int64} {it le pe op kd nu co cl ap rd si bg ct ls hd hk hc vl tk cn lf la pc yb yh yk ho vs os : Nat → Int32}
theorem xr_pay1 {L p : Nat} (hL : L ≤ 150) (h : p < L) {post : Int32 → SX → Prop} (hp : post 1 (nI L, pn, wp, sr, sc, se, fl, nI (p + 1), en, pt, sg, el, rs, sn, it, le, pe, op, kd, nu, co, cl, ap, rd, si, bg, ct, ls, hd, hk, hc, vl)) : wpX_pays post (nI L, pn, wp, sr, sc, se, fl, nI p, en, pt, sg, el, rs, sn, it, le, pe, op, kd, nu, co, cl, ap, rd, si, bg, ct, ls, hd, hk, hc, vl) :=
  br_t (nI_lt h (by omega)) (nm_r (nI_1 _) hp)
theorem xr_pay0 {L : Nat} {post : Int32 → SX → Prop} (hp : post 0 (nI L, pn, wp, sr, sc, se, fl, nI L, 9000000000000000001, pt, sg, el, rs, sn, it, le, pe, op, kd, nu, co, cl, ap, rd, si, bg, ct, ls, hd, hk, hc, vl)) : wpX_pays post (nI L, pn, wp, sr, sc, se, fl, nI L, en, pt, sg, el, rs, sn, it, le, pe, op, kd, nu, co, cl, ap, rd, si, bg, ct, ls, hd, hk, hc, vl) :=
  br_f (Int32.lt_irrefl) hp
theorem yr_pay1 {L p : Nat} (hL : L ≤ 150) (h : p < L) {post : Int32 → SY → Prop} (hp : post 1 (nI L, sr, sc, wy, nI (p + 1), ya, se, fl, vv, vt, ot, ra, br, oc, it, le, tk, cn, kd, nu, lf, la, pc, yb, yh, yk, ho, ap, rd, si, vs, os)) : wpY_pay post (nI L, sr, sc, wy, nI p, ya, se, fl, vv, vt, ot, ra, br, oc, it, le, tk, cn, kd, nu, lf, la, pc, yb, yh, yk, ho, ap, rd, si, vs, os) :=
  br_f (by rw [nI_eq (by omega) (by omega)]; omega) (nm_r (nI_1 _) hp)
theorem yr_pay0 {L : Nat} {post : Int32 → SY → Prop} (hp : post 0 (nI L, sr, sc, wy, nI L, ya, se, fl, vv, vt, ot, ra, br, 9000000000000000001, it, le, tk, cn, kd, nu, lf, la, pc, yb, yh, yk, ho, ap, rd, si, vs, os)) : wpY_pay post (nI L, sr, sc, wy, nI L, ya, se, fl, vv, vt, ot, ra, br, oc, it, le, tk, cn, kd, nu, lf, la, pc, yb, yh, yk, ho, ap, rd, si, vs, os) :=
  br_t rfl hp
theorem xr_rd1 {L p j i : Nat} (hL : L ≤ 150) (h : p < L) (hj : j < 3) (hi : i < 24) {post : Int32 → SX → Prop} (hp : post 1 (nI L, pn, wp, sr, sc, se, fl, nI (p + 1), en, pt, sg, el, it (24 * j + i), sn, it, le, pe, op, kd, nu, co, cl, ap, upd rd j (rd j + 1), si, bg, ct, ls, hd, hk, hc, vl)) : wpX_reads post (nI L, pn, wp, sr, sc, se, fl, nI p, en, pt, sg, el, rs, sn, it, le, pe, op, kd, nu, co, cl, ap, rd, si, bg, ct, ls, hd, hk, hc, vl) (nI j) (nI i) := by
  have e1 : (nI j).toNatClampNeg = j := nI_clamp (by omega)
  have e2 : nI j * 24 + nI i = nI (24 * j + i) := by
    rw [show (24 : Int32) = nI 24 from rfl, pk_mul, nI_add]; exact congrArg nI (by omega)
  have hin : vp_in (nI j) 3 := vp_in_nI hj (by omega)
  unfold wpX_reads
  refine xr_pay1 hL h ?_
  refine br_f (by decide) ⟨hin, hin, nm_r (e' := upd rd j (rd j + 1)) (by rw [e1]) ⟨?_, nm_r (e' := it (24 * j + i)) ?_ hp⟩⟩
  · rw [e2]; exact vp_in_nI (by omega) (by omega)
  · rw [e2, nI_clamp (by omega)]
theorem xr_rd0 {L : Nat} {a b : Int32} {post : Int32 → SX → Prop} (hp : post 0 (nI L, pn, wp, sr, sc, se, fl, nI L, 9000000000000000001, pt, sg, el, rs, sn, it, le, pe, op, kd, nu, co, cl, ap, rd, si, bg, ct, ls, hd, hk, hc, vl)) : wpX_reads post (nI L, pn, wp, sr, sc, se, fl, nI L, en, pt, sg, el, rs, sn, it, le, pe, op, kd, nu, co, cl, ap, rd, si, bg, ct, ls, hd, hk, hc, vl) a b := by
  unfold wpX_reads
  refine xr_pay0 ?_
  exact br_t rfl hp
theorem yr_ft1 {L p j i n : Nat} (hL : L ≤ 150) (h : p < L) (hj : j < 3) (hn : n ≤ 24) (hle : le j = nI n) (hi : i < n) {post : Int32 → SY → Prop} (hp : post 1 (nI L, sr, sc, wy, nI (p + 1), ya, se, fl, it (24 * j + i), vt, ot, ra, br, oc, it, le, tk, cn, kd, nu, lf, la, pc, yb, yh, yk, ho, ap, upd rd j (rd j + 1), si, vs, os)) : wpY_fetch post (nI L, sr, sc, wy, nI p, ya, se, fl, vv, vt, ot, ra, br, oc, it, le, tk, cn, kd, nu, lf, la, pc, yb, yh, yk, ho, ap, rd, si, vs, os) (nI j) (nI i) := by
  have e1 : (nI j).toNatClampNeg = j := nI_clamp (by omega)
  have e2 : 24 * nI j + nI i = nI (24 * j + i) := by
    rw [show (24 : Int32) = nI 24 from rfl, pk_mul, nI_add]
  have hin : vp_in (nI j) 3 := vp_in_nI hj (by omega)
  refine ⟨hin, br_t (by rw [e1, hle]; exact nI_lt hi (by omega)) ?_⟩
  refine yr_pay1 hL h ?_
  refine br_f (by decide) ⟨hin, hin, nm_r (e' := upd rd j (rd j + 1)) (by rw [e1]) ⟨?_, nm_r (e' := it (24 * j + i)) ?_ hp⟩⟩
  · rw [e2]; exact vp_in_nI (by omega) (by omega)
  · rw [e2, nI_clamp (by omega)]
theorem yr_ft0 {L j i n : Nat} (hj : j < 3) (hn : n ≤ 24) (hle : le j = nI n) (hi : i < n) {post : Int32 → SY → Prop} (hp : post 3 (nI L, sr, sc, wy, nI L, ya, se, fl, vv, vt, ot, ra, br, 9000000000000000001, it, le, tk, cn, kd, nu, lf, la, pc, yb, yh, yk, ho, ap, rd, si, vs, os)) : wpY_fetch post (nI L, sr, sc, wy, nI L, ya, se, fl, vv, vt, ot, ra, br, oc, it, le, tk, cn, kd, nu, lf, la, pc, yb, yh, yk, ho, ap, rd, si, vs, os) (nI j) (nI i) := by
  have e1 : (nI j).toNatClampNeg = j := nI_clamp (by omega)
  refine ⟨vp_in_nI hj (by omega), br_t (by rw [e1, hle]; exact nI_lt hi (by omega)) ?_⟩
  refine yr_pay0 ?_
  exact br_t rfl hp
theorem yr_ftE {j i n : Nat} (hj : j < 3) (hn : n ≤ 24) (hle : le j = nI n) (hi : n ≤ i) (hi2 : i < 2 ^ 31) {post : Int32 → SY → Prop} (hp : post 0 (lm, sr, sc, wy, sp, ya, se, fl, vv, vt, ot, ra, br, oc, it, le, tk, cn, kd, nu, lf, la, pc, yb, yh, yk, ho, ap, rd, si, vs, os)) : wpY_fetch post (lm, sr, sc, wy, sp, ya, se, fl, vv, vt, ot, ra, br, oc, it, le, tk, cn, kd, nu, lf, la, pc, yb, yh, yk, ho, ap, rd, si, vs, os) (nI j) (nI i) := by
  have e1 : (nI j).toNatClampNeg = j := nI_clamp (by omega)
  exact ⟨vp_in_nI hj (by omega), br_f (by rw [e1, hle, nI_ltI hi2 (by omega)]; omega) hp⟩
/-- an application: both sides stop with the same outcome, or both get the same value -/
theorem rn_ap {L p s : Nat} (hL : L ≤ 150) (hp : p ≤ L) (hs : s < 8) (hE : rl_Ex co cl tk cn s) (x y : Int32) :
    (∃ (e : Int64) (p' : Nat) (fl' vv' vt' ot' br' : Int32) (ap' vl' vs' os' : Nat → Int32), e ≠ 0 ∧
      (∀ post : Int32 → SX → Prop, post 0 (nI L, pn, wp, sr, sc, se, fl', nI p', e, pt, sg, el, rs, sn, it, le, pe, op, kd, nu, co, cl, ap', rd, si, bg, ct, ls, hd, hk, hc, vl') → wpX_applies post (nI L, pn, wp, sr, sc, se, fl, nI p, en, pt, sg, el, rs, sn, it, le, pe, op, kd, nu, co, cl, ap, rd, si, bg, ct, ls, hd, hk, hc, vl) (nI s) x y) ∧
      (∀ post : Int32 → SY → Prop, post 0 (nI L, sr, sc, wy, nI p', ya, se, fl', vv', vt', ot', ra, br', e, it, le, tk, cn, kd, nu, lf, la, pc, yb, yh, yk, ho, ap', rd, si, vs', os') → wpY_apply post (nI L, sr, sc, wy, nI p, ya, se, fl, vv, vt, ot, ra, br, oc, it, le, tk, cn, kd, nu, lf, la, pc, yb, yh, yk, ho, ap, rd, si, vs, os) (nI s) x y)) ∨
    (p < L ∧ ∃ (v vt' ot' br' : Int32) (vl' vs' os' : Nat → Int32),
      (∀ post : Int32 → SX → Prop, post 1 (nI L, pn, wp, sr, sc, se, fl, nI (p + 1), en, pt, sg, el, v, sn, it, le, pe, op, kd, nu, co, cl, upd ap s (ap s + 1), rd, si, bg, ct, ls, hd, hk, hc, vl') → wpX_applies post (nI L, pn, wp, sr, sc, se, fl, nI p, en, pt, sg, el, rs, sn, it, le, pe, op, kd, nu, co, cl, ap, rd, si, bg, ct, ls, hd, hk, hc, vl) (nI s) x y) ∧
      (∀ post : Int32 → SY → Prop, post 1 (nI L, sr, sc, wy, nI (p + 1), ya, se, fl, v, vt', ot', ra, br', oc, it, le, tk, cn, kd, nu, lf, la, pc, yb, yh, yk, ho, upd ap s (ap s + 1), rd, si, vs', os') → wpY_apply post (nI L, sr, sc, wy, nI p, ya, se, fl, vv, vt, ot, ra, br, oc, it, le, tk, cn, kd, nu, lf, la, pc, yb, yh, yk, ho, ap, rd, si, vs, os) (nI s) x y)) := by
  by_cases h : p < L
  · obtain ⟨tq, N, e1, e2, e3, e4, e5, e6⟩ := hE
    have hf := ex_fin e2
    have hlen : (ex_code tq N).length ≤ 16 := by have := hf.2.2.2.2; simp at this; omega
    have h1g : ex_hgt (ex_code tq N) 0 = 1 := hf.2.2.2.1
    have hcs : (nI s).toNatClampNeg = s := nI_clamp (by omega)
    have his : vp_in (nI s) 8 := vp_in_nI hs (by omega)
    obtain ⟨vl', hx⟩ := xr_apploop (pn := pn) (wp := wp) (sr := sr) (sc := sc) (se := se) (fl := fl) (en := en) (pt := pt) (sg := sg) (el := el) (rs := rs) (sn := sn) (it := it) (le := le) (pe := pe) (op := op) (kd := kd) (nu := nu) (co := co) (cl := cl) (rd := rd) (si := si) (bg := bg) (ct := ct) (ls := ls) (hd := hd) (hk := hk) (hc := hc) (lm := nI L) (sp := nI (p + 1)) (ap := upd ap s (ap s + 1)) s hs x y (ap s) (ex_code tq N) hlen hf.2.2.1 e5 h1g (ex_code tq N).length 0 (by omega) vl rfl trivial
    obtain ⟨vt', ot', vs', os', hy⟩ := yr_value (sr := sr) (sc := sc) (wy := wy) (ya := ya) (se := se) (fl := fl) (vv := vv) (vt := vt) (ot := ot) (ra := ra) (br := br) (oc := oc) (it := it) (le := le) (tk := tk) (cn := cn) (kd := kd) (nu := nu) (lf := lf) (la := la) (pc := pc) (yb := yb) (yh := yh) (yk := yk) (ho := ho) (rd := rd) (si := si) (vs := vs) (os := os) (lm := nI L) (sp := nI (p + 1)) (ap := upd ap s (ap s + 1)) s hs tq N e1 e2 e3 e4 x y (ap s)
    have hXs : ∀ post : Int32 → SX → Prop, (∃ n, wX_applies_51 post (nI s) x y (ap s) (nI (16 * s + (ex_code tq N).length)) (nI L) pn wp sr sc se fl (nI (p + 1)) en pt sg el rs sn n 0 (nI (16 * s)) it le pe op kd nu co cl (upd ap s (ap s + 1)) rd si bg ct ls hd hk hc vl) → wpX_applies post (nI L, pn, wp, sr, sc, se, fl, nI p, en, pt, sg, el, rs, sn, it, le, pe, op, kd, nu, co, cl, ap, rd, si, bg, ct, ls, hd, hk, hc, vl) (nI s) x y := by
      intro post hq
      unfold wpX_applies
      refine xr_pay1 hL h ?_
      refine br_f (by decide) ⟨his, nm_r (e' := ap s) (by rw [hcs]) ⟨his, his, nm_r (e' := upd ap s (ap s + 1)) (by rw [hcs]) (nm_r (e' := nI (16 * s)) ?_ ⟨his, nm_r (e' := nI (16 * s + (ex_code tq N).length)) ?_ hq⟩)⟩⟩
      · rw [show (16 : Int32) = nI 16 from rfl, pk_mul]; exact congrArg nI (by omega)
      · rw [hcs, e6, nI_add]
    have hYs : ∀ post : Int32 → SY → Prop, wpY_value (fun r_39 u => match u with | (f_limit_40, f_source_41, f_stages_42, f_wrongAt_43, f_paid_44, f_at_45, f_seenCount_46, f_failedAt_47, f_v_48, f_valTop_49, f_opTop_50, f_ran_51, f_broken_52, f_outcome_53, a_lists_54, a_sizes_55, a_tokens_56, a_counts_57, a_kinds_58, a_numbers_59, a_left_60, a_last_61, a_place_62, a_begun_63, a_held_64, a_keys_65, a_holds_66, a_applied_67, a_reads_68, a_seen_69, a_vals_70, a_ops_71) => (((f_broken_52 = 0 → (wY_apply_54 post f_limit_40 f_source_41 f_stages_42 f_wrongAt_43 f_paid_44 f_at_45 f_seenCount_46 f_failedAt_47 r_39 f_valTop_49 f_opTop_50 f_ran_51 f_broken_52 f_outcome_53 a_lists_54 a_sizes_55 a_tokens_56 a_counts_57 a_kinds_58 a_numbers_59 a_left_60 a_last_61 a_place_62 a_begun_63 a_held_64 a_keys_65 a_holds_66 a_applied_67 a_reads_68 a_seen_69 a_vals_70 a_ops_71)) ∧ (¬ f_broken_52 = 0 → (wY_apply_54 post f_limit_40 f_source_41 f_stages_42 f_wrongAt_43 f_paid_44 f_at_45 f_seenCount_46 (nI s) r_39 f_valTop_49 f_opTop_50 f_ran_51 f_broken_52 9000000000000000002 a_lists_54 a_sizes_55 a_tokens_56 a_counts_57 a_kinds_58 a_numbers_59 a_left_60 a_last_61 a_place_62 a_begun_63 a_held_64 a_keys_65 a_holds_66 a_applied_67 a_reads_68 a_seen_69 a_vals_70 a_ops_71))))) (nI L, sr, sc, wy, nI (p + 1), ya, se, fl, vv, vt, ot, ra, br, oc, it, le, tk, cn, kd, nu, lf, la, pc, yb, yh, yk, ho, upd ap s (ap s + 1), rd, si, vs, os) (nI s) x y (ap s) → wpY_apply post (nI L, sr, sc, wy, nI p, ya, se, fl, vv, vt, ot, ra, br, oc, it, le, tk, cn, kd, nu, lf, la, pc, yb, yh, yk, ho, ap, rd, si, vs, os) (nI s) x y := by
      intro post hq
      unfold wpY_apply
      refine yr_pay1 hL h ?_
      exact br_f (by decide) ⟨his, his, nm_r (e' := upd ap s (ap s + 1)) (by rw [hcs]) (nm_r (e' := ap s) (by rw [hcs]) hq)⟩
    rcases hx with ⟨hb, hx⟩ | ⟨hb, hx⟩
    · refine Or.inr ⟨h, (ex_ev x y (ap s) (ex_code tq N)).1.headD 0, vt', ot', 0, vl', vs', os', fun post hq => hXs post ⟨_, hx post _ (Nat.lt_succ_self _) hq⟩, fun post hq => hYs post (hy _ ?_)⟩
      rw [hb]
      exact br_t rfl (br_t rfl hq)
    · refine Or.inl ⟨9000000000000000002, p + 1, nI s, (ex_ev x y (ap s) (ex_code tq N)).1.headD 0, vt', ot', 1, upd ap s (ap s + 1), vl', vs', os', by decide, fun post hq => hXs post ⟨_, hx post _ (Nat.lt_succ_self _) hq⟩, fun post hq => hYs post (hy _ ?_)⟩
      rw [hb]
      exact br_f (by decide) (br_f (by decide) hq)
  · have : p = L := by omega
    subst this
    refine Or.inl ⟨9000000000000000001, p, fl, vv, vt, ot, br, ap, vl, vs, os, by decide, fun post hq => ?_, fun post hq => ?_⟩
    · unfold wpX_applies
      refine xr_pay0 ?_
      exact br_t rfl hq
    · unfold wpY_apply
      refine yr_pay0 ?_
      exact br_t rfl hq
end
end
section
/-! sorting: the component keeps its list sorted from the right, the reference takes the first least one away -/
def ls_l {α : Type} (f : Nat → α) : Nat → List α
  | 0 => []
  | n + 1 => f 0 :: ls_l (fun i => f (i + 1)) n
theorem ls_congr {α : Type} : ∀ (n : Nat) (f g : Nat → α), (∀ i, i < n → f i = g i) → ls_l f n = ls_l g n
  | 0, _, _, _ => rfl
  | n + 1, f, g, h => by
    simp only [ls_l]
    rw [h 0 (by omega), ls_congr n _ _ (fun i hi => h (i + 1) (by omega))]
theorem ls_add {α : Type} : ∀ (a b : Nat) (f : Nat → α), ls_l f (a + b) = ls_l f a ++ ls_l (fun i => f (a + i)) b
  | 0, b, f => by simp [ls_l]
  | a + 1, b, f => by
    rw [show a + 1 + b = (a + b) + 1 from by omega]
    simp only [ls_l, List.cons_append]
    rw [ls_add a b]
    congr 2
    exact ls_congr _ _ _ (fun i _ => by rw [show a + i + 1 = a + 1 + i from by omega])
theorem ls_mem {α : Type} : ∀ (n : Nat) (f : Nat → α) (x : α), x ∈ ls_l f n → ∃ i, i < n ∧ f i = x
  | 0, _, _, h => by simp [ls_l] at h
  | n + 1, f, x, h => by
    simp only [ls_l, List.mem_cons] at h
    rcases h with h | h
    · exact ⟨0, by omega, h.symm⟩
    · obtain ⟨i, hi, e⟩ := ls_mem n _ x h
      exact ⟨i + 1, by omega, e⟩
def ls_in (x : Int32 × Int32) : List (Int32 × Int32) → List (Int32 × Int32)
  | [] => [x]
  | y :: l => if x.1 < y.1 then y :: ls_in x l else x :: y :: l
def ls_st (l : List (Int32 × Int32)) : List (Int32 × Int32) := l.foldl (fun acc e => ls_in e acc) []
theorem ls_st_snoc (l : List (Int32 × Int32)) (x : Int32 × Int32) : ls_st (l ++ [x]) = ls_in x (ls_st l) := by
  simp [ls_st, List.foldl_append]
theorem ls_in_app (x : Int32 × Int32) : ∀ (B A : List (Int32 × Int32)), (∀ y, y ∈ B → x.1 < y.1) → ls_in x (B ++ A) = B ++ ls_in x A
  | [], A, _ => rfl
  | y :: B, A, h => by
    simp only [List.cons_append, ls_in]
    rw [if_pos (h y (List.mem_cons_self ..)), ls_in_app x B A (fun z hz => h z (List.mem_cons_of_mem _ hz))]
theorem ls_in_mem (x : Int32 × Int32) : ∀ (l : List (Int32 × Int32)) (y : Int32 × Int32), y ∈ ls_in x l → y = x ∨ y ∈ l
  | [], y, h => by simp [ls_in] at h; exact Or.inl h
  | z :: l, y, h => by
    simp only [ls_in] at h
    split at h
    · rcases List.mem_cons.mp h with h | h
      · exact Or.inr (by rw [h]; exact List.mem_cons_self ..)
      · rcases ls_in_mem x l y h with h | h
        · exact Or.inl h
        · exact Or.inr (List.mem_cons_of_mem _ h)
    · rcases List.mem_cons.mp h with h | h
      · exact Or.inl h
      · exact Or.inr h
theorem ls_fold_mem : ∀ (l acc : List (Int32 × Int32)) (y : Int32 × Int32), y ∈ l.foldl (fun acc e => ls_in e acc) acc → y ∈ l ∨ y ∈ acc
  | [], acc, y, h => Or.inr h
  | x :: l, acc, y, h => by
    rcases ls_fold_mem l _ y h with h | h
    · exact Or.inl (List.mem_cons_of_mem _ h)
    · rcases ls_in_mem x acc y h with h | h
      · exact Or.inl (by rw [h]; exact List.mem_cons_self ..)
      · exact Or.inr h
theorem ls_st_mem (l : List (Int32 × Int32)) (y : Int32 × Int32) (h : y ∈ ls_st l) : y ∈ l := by
  rcases ls_fold_mem l [] y h with h | h
  · exact h
  · simp at h
theorem ls_in_end (m y : Int32 × Int32) (h : m.1 ≤ y.1) : ∀ acc : List (Int32 × Int32), ls_in y (acc ++ [m]) = ls_in y acc ++ [m]
  | [] => by
    simp only [List.nil_append, ls_in]
    rw [if_neg (Int32.not_lt.mpr h)]
    rfl
  | z :: acc => by
    simp only [List.cons_append, ls_in]
    split
    · rw [ls_in_end m y h acc, List.cons_append]
    · rfl
theorem ls_fold_end (m : Int32 × Int32) : ∀ (c acc : List (Int32 × Int32)), (∀ y, y ∈ c → m.1 ≤ y.1) → c.foldl (fun acc e => ls_in e acc) (acc ++ [m]) = c.foldl (fun acc e => ls_in e acc) acc ++ [m]
  | [], acc, _ => rfl
  | y :: c, acc, h => by
    simp only [List.foldl_cons]
    rw [ls_in_end m y (h y (List.mem_cons_self ..)), ls_fold_end m c _ (fun z hz => h z (List.mem_cons_of_mem _ hz))]
theorem ls_first (a c : List (Int32 × Int32)) (m : Int32 × Int32) (h1 : ∀ y, y ∈ a → m.1 < y.1) (h2 : ∀ y, y ∈ c → m.1 ≤ y.1) : ls_st (a ++ m :: c) = ls_st (a ++ c) ++ [m] := by
  have e : a ++ m :: c = (a ++ [m]) ++ c := by simp
  rw [e]
  unfold ls_st
  rw [List.foldl_append, List.foldl_append, List.foldl_append]
  have h3 : ls_in m (a.foldl (fun acc e => ls_in e acc) []) = a.foldl (fun acc e => ls_in e acc) [] ++ [m] := by
    have := ls_in_app m (ls_st a) [] (fun y hy => h1 y (ls_st_mem a y hy))
    rw [List.append_nil] at this
    exact this
  show c.foldl (fun acc e => ls_in e acc) (ls_in m (a.foldl (fun acc e => ls_in e acc) [])) = _
  rw [h3, ls_fold_end m c _ h2]
/-- the component's insertion: position q, all behind it greater -/
theorem ls_ins (f g : Nat → Int32 × Int32) (n q : Nat) (hq : q ≤ n) (x : Int32 × Int32) (h1 : ∀ i, i < q → g i = f i) (h2 : g q = x) (h3 : ∀ i, q ≤ i → i < n → g (i + 1) = f i) (h4 : ∀ i, q ≤ i → i < n → x.1 < (f i).1) (h5 : q = 0 ∨ ¬ x.1 < (f (q - 1)).1) :
    (ls_l g (n + 1)).reverse = ls_in x (ls_l f n).reverse := by
  have ef : ls_l f n = ls_l f q ++ ls_l (fun i => f (q + i)) (n - q) := by
    rw [← ls_add]; congr 1; omega
  have eg : ls_l g (n + 1) = ls_l f q ++ x :: ls_l (fun i => f (q + i)) (n - q) := by
    rw [show n + 1 = q + ((n - q) + 1) from by omega, ls_add]
    congr 1
    · exact ls_congr _ _ _ h1
    · simp only [ls_l]
      congr 1
      refine ls_congr _ _ _ (fun i hi => ?_)
      have := h3 (q + i) (by omega) (by omega)
      rw [← this]; congr 1
  rw [ef, eg]
  simp only [List.reverse_append, List.reverse_cons, List.append_assoc]
  rw [ls_in_app]
  · congr 1
    rcases h5 with rfl | h5
    · rfl
    · cases q with
      | zero => rfl
      | succ q =>
        have e : ls_l f (q + 1) = ls_l f q ++ [f q] := by rw [ls_add]; rfl
        rw [e, List.reverse_append]
        simp only [List.reverse_cons, List.reverse_nil, List.nil_append, List.cons_append, ls_in]
        rw [if_neg (by simpa using h5)]
  · intro y hy
    rw [List.mem_reverse] at hy
    obtain ⟨i, hi, e⟩ := ls_mem _ _ _ hy
    rw [← e]
    exact h4 _ (by omega) (by omega)
/-- taking the first least one away -/
theorem ls_take (f h : Nat → Int32 × Int32) (X : List (Int32 × Int32)) (r p : Nat) (hp : p < r + 1) (h1 : ∀ i, i < p → (f p).1 < (f i).1) (h2 : ∀ i, p ≤ i → i < r + 1 → (f p).1 ≤ (f i).1) (g1 : ∀ i, i < p → h i = f i) (g2 : ∀ i, p ≤ i → i < r → h i = f (i + 1)) (x : Int32 × Int32) (T : List (Int32 × Int32)) (hX : X = x :: T) (hR : X.reverse = ls_st (ls_l f (r + 1))) :
    x = f p ∧ T.reverse = ls_st (ls_l h r) := by
  have ef : ls_l f (r + 1) = ls_l f p ++ f p :: ls_l (fun i => f (p + 1 + i)) (r - p) := by
    rw [show r + 1 = p + ((r - p) + 1) from by omega, ls_add]
    simp only [ls_l]
    congr 2
    exact ls_congr _ _ _ (fun i _ => by congr 1; omega)
  have eh : ls_l h r = ls_l f p ++ ls_l (fun i => f (p + 1 + i)) (r - p) := by
    rw [show r = p + (r - p) from by omega, ls_add]
    congr 1
    · exact ls_congr _ _ _ g1
    · rw [show p + (r - p) - p = r - p from by omega]
      refine ls_congr _ _ _ (fun i hi => ?_)
      rw [g2 _ (by omega) (by omega)]
      congr 1; omega
  rw [ef, ls_first, ← eh, hX, List.reverse_cons] at hR
  · have := List.append_inj' hR rfl
    refine ⟨by simpa using this.2, this.1⟩
  · intro y hy
    obtain ⟨i, hi, e⟩ := ls_mem _ _ _ hy
    rw [← e]; exact h1 i hi
  · intro y hy
    obtain ⟨i, hi, e⟩ := ls_mem _ _ _ hy
    rw [← e]; exact h2 _ (by omega) (by omega)
end
section
/-! the relation inside a run -/
def rn_aI : Nat → Int32
  | 0 => -1
  | s + 1 => nI s
theorem rn_succ : ∀ p : Nat, rn_aI p + 1 = rn_aI (p + 1)
  | 0 => by decide
  | s + 1 => nI_1 s
theorem rn_pred : ∀ s : Nat, nI s - 1 = rn_aI s
  | 0 => by decide
  | s + 1 => nI_pred s
theorem rn_m1 : ∀ s : Nat, nI s + (-1) = rn_aI s
  | 0 => by decide
  | s + 1 => pk_m1 s
def rn_sm (f : Nat → Nat) : Nat → Nat
  | 0 => 0
  | n + 1 => rn_sm f n + f n
theorem rn_sm_eq (f g : Nat → Nat) : ∀ n : Nat, (∀ t, t < n → g t = f t) → rn_sm g n = rn_sm f n
  | 0, _ => rfl
  | n + 1, h => by
    simp only [rn_sm]
    rw [rn_sm_eq f g n (fun t ht => h t (by omega)), h n (by omega)]
theorem rn_sm_up (f g : Nat → Nat) (i : Nat) (h1 : g i = f i + 1) (h2 : ∀ t, t ≠ i → g t = f t) : ∀ n : Nat, i < n → rn_sm g n = rn_sm f n + 1
  | 0, h => absurd h (by omega)
  | n + 1, h => by
    simp only [rn_sm]
    by_cases e : i = n
    · subst e
      rw [h1, rn_sm_eq f g i (fun t ht => h2 t (by omega))]; omega
    · rw [rn_sm_up f g i h1 h2 n (by omega), h2 n (by omega)]; omega
theorem rn_sm_le (f : Nat → Nat) (c : Nat) : ∀ n : Nat, (∀ t, t < n → f t ≤ c) → rn_sm f n ≤ n * c
  | 0, _ => by simp [rn_sm]
  | n + 1, h => by
    simp only [rn_sm]
    have := rn_sm_le f c n (fun t ht => h t (by omega))
    have := h n (by omega)
    rw [Nat.succ_mul]; omega
def rn_ph (sg p : Nat) : Nat := if sg = 0 then 10 - p else if sg = 1 then 0 else 11 + p
def rn_P (S : Nat) (g b : Nat → Nat) (sg p : Nat) : Nat := 60 * (rn_sm g (S + 1) + rn_sm b S) + rn_ph sg p
def rn_sl (a : Nat → Int32) (w t : Nat) : Nat → Int32 := fun i => if i < w then a (w * t + i) else 0
theorem rn_sl_eq {a a' : Nat → Int32} {w s t : Nat} (h : ∀ i, (i < w * s ∨ w * s + w ≤ i) → a' i = a i) (ht : t ≠ s) : rn_sl a' w t = rn_sl a w t := by
  funext i
  unfold rn_sl
  split
  · rename_i hi
    apply h
    rcases Nat.lt_or_gt_of_ne ht with h1 | h1
    · left
      have : w * (t + 1) ≤ w * s := Nat.mul_le_mul_left w h1
      rw [Nat.mul_succ] at this; omega
    · right
      have : w * (s + 1) ≤ w * t := Nat.mul_le_mul_left w h1
      rw [Nat.mul_succ] at this; omega
  · rfl
theorem rn_sl_at {a : Nat → Int32} {w t i : Nat} (h : i < w) : rn_sl a w t i = a (w * t + i) := if_pos h
def rn_cl (k : Nat) : Prop := k = 9 ∨ k = 14 ∨ k = 15 ∨ k = 16
def rn_bb (b : Nat) (xb yb : Int32) : Prop := xb = yb ∧ ((b = 0 ∧ xb = 0) ∨ (b = 1 ∧ xb = 1))
def dd_T (k : Nat) (nu : Int32) (len P g1 r b : Nat) (xb xc xl xn : Int32) (xh xk : Nat → Int32) (yf yl yp yb yn : Int32) (yh yk : Nat → Int32) : Prop :=
  match k with
  | 2 => xc = yf
  | 3 => ∃ j : Nat, j ≤ P ∧ yf = nI j ∧ (nu < 1 → xc = 0) ∧ (∀ m : Nat, m < 2 ^ 31 → nu = nI m → xc = nI (min j m))
  | 5 => xb = yb
  | 6 => xc = yf ∧ (¬ xc = 0 → xl = yl)
  | 7 => xc = yf ∧ (¬ xc = 0 → xl = yl)
  | 8 => ∃ n : Nat, n ≤ g1 ∧ xn = nI n ∧ yn = nI n ∧ ∀ i, i < n → xh i = yk i
  | 9 => rn_bb b xb yb ∧ ∃ j : Nat, j ≤ P ∧ yp = nI j ∧ (b = 0 → j = 0) ∧ (b = 1 → xc = nI (min j len))
  | 10 => ∃ j : Nat, j ≤ P ∧ yp = nI j ∧ xc = nI (min j len)
  | 11 => xb = yb ∧ ∃ i : Nat, i ≤ len ∧ xc = nI i ∧ (¬ xb = 0 → xl = yl ∧ yp = nI i)
  | 12 => xb = yb ∧ (xb = 0 ∨ xb = 1) ∧ (¬ xb = 0 → xl = yl)
  | 13 => xb = yb ∧ (xb = 0 ∨ xb = 1) ∧ (¬ xb = 0 → xl = yl)
  | 14 => rn_bb b xb yb ∧ ∃ j : Nat, r + j ≤ 150 ∧ xn = nI (r + j) ∧ yn = nI (r + j) ∧ yp = nI j ∧ (b = 0 → j = 0) ∧ (b = 1 → xc = nI j) ∧ (ls_l (fun i => (xk (j + i), xh (j + i))) r).reverse = ls_st (ls_l (fun i => (yk (j + i), yh (j + i))) r)
  | 15 => rn_bb b xb yb ∧ ∃ j : Nat, r + j ≤ 150 ∧ xn = nI (r + j) ∧ yn = nI (r + j) ∧ (b = 0 → j = 0) ∧ (b = 1 → xc = nI j ∧ yp = rn_aI r) ∧ ∀ i, i < r + j → xh i = yh i
  | 16 => rn_bb b xb yb ∧ ∃ j : Nat, r + j ≤ 150 ∧ xn = nI (r + j) ∧ yn = nI (r + j) ∧ yp = nI j ∧ (b = 0 → j = 0) ∧ (b = 1 → xc = nI j) ∧ ∀ i, i < r + j → xh i = yh i ∧ xk i = yk i
  | _ => True
theorem dd_mono {k : Nat} {nu : Int32} {len P g1 r b : Nat} {xb xc xl xn : Int32} {xh xk : Nat → Int32} {yf yl yp yb yn : Int32} {yh yk : Nat → Int32} (hk : k ≤ 16) {P' : Nat} (hP : P ≤ P') (h : dd_T k nu len P g1 r b xb xc xl xn xh xk yf yl yp yb yn yh yk) : dd_T k nu len P' g1 r b xb xc xl xn xh xk yf yl yp yb yn yh yk := by
  rcases st_17 hk with rfl | rfl | rfl | rfl | rfl | rfl | rfl | rfl | rfl | rfl | rfl | rfl | rfl | rfl | rfl | rfl | rfl
  all_goals first
    | exact h
    | (obtain ⟨j, a, c⟩ := h; exact ⟨j, by omega, c⟩)
    | (obtain ⟨d, j, a, c⟩ := h; exact ⟨d, j, by omega, c⟩)
def rn_zl (le nu : Nat → Int32) (s : Nat) : Nat := (le (nu s).toNatClampNeg).toNatClampNeg
def fr_F (s : Nat) (bg ct ls hd hk hc lf la pc yb yh yk ho bg' ct' ls' hd' hk' hc' lf' la' pc' yb' yh' yk' ho' : Nat → Int32) : Prop :=
  (∀ t, t ≠ s → bg' t = bg t ∧ ct' t = ct t ∧ ls' t = ls t ∧ hc' t = hc t ∧ lf' t = lf t ∧ la' t = la t ∧ pc' t = pc t ∧ yb' t = yb t ∧ ho' t = ho t) ∧
  (∀ i, (i < 150 * s ∨ 150 * s + 150 ≤ i) → hd' i = hd i ∧ hk' i = hk i) ∧ (∀ i, (i < 160 * s ∨ 160 * s + 160 ≤ i) → yh' i = yh i ∧ yk' i = yk i)
def dd_S (le kd nu : Nat → Int32) (P : Nat) (g r b : Nat → Nat) (bg ct ls hd hk hc lf la pc yb yh yk ho : Nat → Int32) (s : Nat) : Prop :=
  dd_T (kd s).toNatClampNeg (nu s) (rn_zl le nu s) P (g (s + 1)) (r s) (b s) (bg s) (ct s) (ls s) (hc s) (rn_sl hd 150 s) (rn_sl hk 150 s) (lf s) (la s) (pc s) (yb s) (ho s) (rn_sl yh 160 s) (rn_sl yk 160 s)
def dd_D (S L m : Nat) (le kd nu : Nat → Int32) (g e r b : Nat → Nat) (sg p q : Nat) (sn ya : Int32) (bg ct ls hd hk hc lf la pc yb yh yk ho : Nat → Int32) : Prop :=
  q ≤ L ∧ (∃ j : Nat, j ≤ rn_P S g b sg p ∧ ya = nI j ∧ sn = nI (min j (le m).toNatClampNeg)) ∧
  (∀ s, s < S → dd_S le kd nu (rn_P S g b sg p) g r b bg ct ls hd hk hc lf la pc yb yh yk ho s) ∧
  (∀ t, t ≤ S → g t + e t ≤ q) ∧ (∀ s, s < S → e s + r s ≤ e (s + 1)) ∧ (∀ s, s < S → p = s + 1 → sg = 1 → e s + 1 + r s ≤ e (s + 1)) ∧
  (∀ s, s < S → (p < s + 1 ∨ (p = s + 1 ∧ sg ≠ 0)) → rn_cl (kd s).toNatClampNeg → b s = 0) ∧ (∀ s, b s ≤ 1)
theorem dd_bound {S L m : Nat} {le kd nu : Nat → Int32} {g e r b : Nat → Nat} {sg p q : Nat} {sn ya : Int32} {bg ct ls hd hk hc lf la pc yb yh yk ho : Nat → Int32} (hS : S ≤ 8) (hL : L ≤ 150) (hp : p ≤ S + 1) (h : dd_D S L m le kd nu g e r b sg p q sn ya bg ct ls hd hk hc lf la pc yb yh yk ho) : rn_P S g b sg p < 90000 := by
  obtain ⟨h1, _, _, h4, _, _, _, h8⟩ := h
  have a := rn_sm_le g 150 (S + 1) (fun t ht => by have := h4 t (by omega); omega)
  have c := rn_sm_le b 1 S (fun t _ => h8 t)
  have d : (S + 1) * 150 ≤ 9 * 150 := Nat.mul_le_mul_right _ (by omega)
  have : rn_ph sg p ≤ 20 := by
    unfold rn_ph
    split
    · omega
    · split <;> omega
  unfold rn_P
  omega
theorem dd_upd {S L m : Nat} {le kd nu : Nat → Int32} {g e r b g' e' r' b' : Nat → Nat} {sg p q sg' p' q' s : Nat} {sn ya : Int32} {bg ct ls hd hk hc lf la pc yb yh yk ho bg' ct' ls' hd' hk' hc' lf' la' pc' yb' yh' yk' ho' : Nat → Int32}
    (hkd : ∀ t, t < S → (kd t).toNatClampNeg ≤ 16) (h : dd_D S L m le kd nu g e r b sg p q sn ya bg ct ls hd hk hc lf la pc yb yh yk ho) (hP : rn_P S g b sg p ≤ rn_P S g' b' sg' p') (hF : fr_F s bg ct ls hd hk hc lf la pc yb yh yk ho bg' ct' ls' hd' hk' hc' lf' la' pc' yb' yh' yk' ho')
    (hg : ∀ t, t ≠ s → g' (t + 1) = g (t + 1)) (hr : ∀ t, t ≠ s → r' t = r t) (hb : ∀ t, t ≠ s → b' t = b t) (hT : dd_S le kd nu (rn_P S g' b' sg' p') g' r' b' bg' ct' ls' hd' hk' hc' lf' la' pc' yb' yh' yk' ho' s)
    (hq : q' ≤ L) (hA : ∀ t, t ≤ S → g' t + e' t ≤ q') (hB : ∀ s, s < S → e' s + r' s ≤ e' (s + 1)) (hB2 : ∀ s, s < S → p' = s + 1 → sg' = 1 → e' s + 1 + r' s ≤ e' (s + 1))
    (hW : ∀ s, s < S → (p' < s + 1 ∨ (p' = s + 1 ∧ sg' ≠ 0)) → rn_cl (kd s).toNatClampNeg → b' s = 0) (hb1 : ∀ s, b' s ≤ 1) : dd_D S L m le kd nu g' e' r' b' sg' p' q' sn ya bg' ct' ls' hd' hk' hc' lf' la' pc' yb' yh' yk' ho' := by
  obtain ⟨h1, ⟨j, h2a, h2b, h2c⟩, h3, h4, h5, h6, h7, h8⟩ := h
  refine ⟨hq, ⟨j, by omega, h2b, h2c⟩, fun t ht => ?_, hA, hB, hB2, hW, hb1⟩
  by_cases e : t = s
  · subst e; exact hT
  · obtain ⟨f1, f2, f3⟩ := hF
    obtain ⟨a1, a2, a3, a4, a5, a6, a7, a8, a9⟩ := f1 t e
    have := dd_mono (hkd t ht) hP (h3 t ht)
    unfold dd_S
    rw [hg t e, hr t e, hb t e, a1, a2, a3, a4, a5, a6, a7, a8, a9, rn_sl_eq (fun i hi => (f2 i hi).1) e, rn_sl_eq (fun i hi => (f2 i hi).2) e, rn_sl_eq (fun i hi => (f3 i hi).1) e, rn_sl_eq (fun i hi => (f3 i hi).2) e]
    exact this
section
variable (lm pn wp sr sc se fl sp pt sg el rs sn wy ya vv vt ot ra br : Int32) (en oc : Int64) (it le pe op kd nu co cl ap rd si bg ct ls hd hk hc vl tk cn lf la pc yb yh yk ho vs os : Nat → Int32)
/-- both sides have stopped, with one outcome -/
def ro_O (L S m : Nat) (u : SX) (v : SY) : Prop := ∃ (q : Nat) (oe : Int64) (fl pt sg el rs sn ya vv vt ot br : Int32) (ap rd bg ct ls hd hk hc lf la pc yb yh yk ho vl vs os : Nat → Int32), oe ≠ 0 ∧ u = (nI L, pn, wp, nI m, nI S, se, fl, nI q, oe, pt, sg, el, rs, sn, it, le, pe, op, kd, nu, co, cl, ap, rd, si, bg, ct, ls, hd, hk, hc, vl) ∧ v = (nI L, nI m, nI S, wy, nI q, ya, se, fl, vv, vt, ot, ra, br, oe, it, le, tk, cn, kd, nu, lf, la, pc, yb, yh, yk, ho, ap, rd, si, vs, os)
def rr_R (L S m : Nat) (sgn p P : Nat) (u : SX) (v : SY) : Prop := ∃ (q : Nat) (g e r b : Nat → Nat) (fl el rs sn ya vv vt ot br : Int32) (oc : Int64) (ap rd bg ct ls hd hk hc lf la pc yb yh yk ho vl vs os : Nat → Int32), u = (nI L, pn, wp, nI m, nI S, se, fl, nI q, 0, rn_aI p, nI sgn, el, rs, sn, it, le, pe, op, kd, nu, co, cl, ap, rd, si, bg, ct, ls, hd, hk, hc, vl) ∧ v = (nI L, nI m, nI S, wy, nI q, ya, se, fl, vv, vt, ot, ra, br, oc, it, le, tk, cn, kd, nu, lf, la, pc, yb, yh, yk, ho, ap, rd, si, vs, os) ∧
  (sgn = 1 → el = vv) ∧ P = rn_P S g b sgn p ∧ dd_D S L m le kd nu g e r b sgn p q sn ya bg ct ls hd hk hc lf la pc yb yh yk ho
def rr_N (L S m : Nat) (P p : Nat) (act : Int32) (u : SX) (v : SY) : Prop :=
  (act = 3 ∧ ro_O pn wp se wy ra it le pe op kd nu co cl si tk cn L S m u v) ∨ (∃ P' : Nat, P < P' ∧ ((act = 2 ∧ 1 ≤ p ∧ rr_R pn wp se wy ra it le pe op kd nu co cl si tk cn L S m 0 (p - 1) P' u v) ∨ (act = 1 ∧ rr_R pn wp se wy ra it le pe op kd nu co cl si tk cn L S m 1 (p + 1) P' u v) ∨ (act = 0 ∧ rr_R pn wp se wy ra it le pe op kd nu co cl si tk cn L S m 2 (p + 1) P' u v)))
end
end
section
section
variable {lm pn wp sr sc se fl sp pt sg el rs sn wy ya vv vt ot ra br : Int32} {en oc : Int64} {it le pe op kd nu co cl ap rd si bg ct ls hd hk hc vl tk cn lf la pc yb yh yk ho vs os : Nat → Int32}
variable {bg' ct' ls' hd' hk' hc' lf' la' pc' yb' yh' yk' ho' : Nat → Int32} {S L m q q' s sgn k r1 : Nat} {g e r b : Nat → Nat}
theorem md_ask (hkd : ∀ t, t < S → (kd t).toNatClampNeg ≤ 16) (hS : S ≤ 8) (hs : s < S) (h : dd_D S L m le kd nu g e r b sgn (s + 1) q sn ya bg ct ls hd hk hc lf la pc yb yh yk ho) (hF : fr_F s bg ct ls hd hk hc lf la pc yb yh yk ho bg' ct' ls' hd' hk' hc' lf' la' pc' yb' yh' yk' ho') (hsg : sgn = 0 ∨ sgn = 1) (hr : r1 ≤ r s ∨ (sgn = 1 ∧ r1 ≤ r s + 1)) (hw : rn_cl k → b s = 0) (hq : q ≤ q') (hqL : q' ≤ L) (hk0 : (kd s).toNatClampNeg = k)
    (hT : ∀ P' : Nat, rn_P S g b sgn (s + 1) < P' → dd_T k (nu s) (rn_zl le nu s) P' (g (s + 1)) r1 (b s) (bg' s) (ct' s) (ls' s) (hc' s) (rn_sl hd' 150 s) (rn_sl hk' 150 s) (lf' s) (la' s) (pc' s) (yb' s) (ho' s) (rn_sl yh' 160 s) (rn_sl yk' 160 s)) :
    rr_N pn wp se wy ra it le pe op kd nu co cl si tk cn L S m (rn_P S g b sgn (s + 1)) (s + 1) 2 (nI L, pn, wp, nI m, nI S, se, fl, nI q', 0, rn_aI s, 0, el, rs, sn, it, le, pe, op, kd, nu, co, cl, ap, rd, si, bg', ct', ls', hd', hk', hc', vl) (nI L, nI m, nI S, wy, nI q', ya, se, fl, vv, vt, ot, ra, br, oc, it, le, tk, cn, kd, nu, lf', la', pc', yb', yh', yk', ho', ap, rd, si, vs, os) := by
  have hP : rn_P S g b sgn (s + 1) < rn_P S g b 0 s := by
    unfold rn_P rn_ph
    rcases hsg with rfl | rfl
    · simp <;> omega
    · simp <;> omega
  obtain ⟨h1, h2, h3, h4, h5, h6, h7, h8⟩ := id h
  refine Or.inr ⟨rn_P S g b 0 s, hP, Or.inl ⟨rfl, by omega, q', g, e, (fun t => if t = s then r1 else r t), b, fl, el, rs, sn, ya, vv, vt, ot, br, oc, ap, rd, bg', ct', ls', hd', hk', hc', lf', la', pc', yb', yh', yk', ho', vl, vs, os, rfl, rfl, fun z => absurd z (by decide), rfl, ?_⟩⟩
  refine dd_upd hkd h (Nat.le_of_lt hP) hF (fun t _ => rfl) (fun t ht => if_neg ht) (fun t _ => rfl) ?_ hqL (fun t ht => Nat.le_trans (h4 t ht) hq) ?_ (fun t _ _ z => absurd z (by decide)) ?_ h8
  · unfold dd_S
    try dsimp only
    rw [hk0, if_pos rfl]
    exact hT _ hP
  · intro t ht
    have a := h5 t ht
    by_cases et : t = s
    · subst et
      have c := h6 t ht rfl
      simp only [if_true]
      rcases hr with hr | ⟨z, hr⟩
      · omega
      · have := c z; omega
    · simp only [et, if_false]; exact a
  · intro t ht hp hc'
    by_cases et : t = s
    · subst et; rw [hk0] at hc'; exact hw hc'
    · refine h7 t ht (Or.inl ?_) hc'
      rcases hp with hp | ⟨hp, z⟩
      · omega
      · exact absurd rfl z
theorem md_give (x : Int32) (hkd : ∀ t, t < S → (kd t).toNatClampNeg ≤ 16) (hS : S ≤ 8) (hs : s < S) (h : dd_D S L m le kd nu g e r b sgn (s + 1) q sn ya bg ct ls hd hk hc lf la pc yb yh yk ho) (hF : fr_F s bg ct ls hd hk hc lf la pc yb yh yk ho bg' ct' ls' hd' hk' hc' lf' la' pc' yb' yh' yk' ho') (hsg : sgn = 0 ∨ sgn = 1) (hr : r1 + 1 ≤ r s ∨ (sgn = 1 ∧ r1 ≤ r s)) (hq : q ≤ q') (hqL : q' ≤ L) (hk0 : (kd s).toNatClampNeg = k)
    (hT : ∀ P' : Nat, rn_P S g b sgn (s + 1) < P' → dd_T k (nu s) (rn_zl le nu s) P' (g (s + 1) + 1) r1 (b s) (bg' s) (ct' s) (ls' s) (hc' s) (rn_sl hd' 150 s) (rn_sl hk' 150 s) (lf' s) (la' s) (pc' s) (yb' s) (ho' s) (rn_sl yh' 160 s) (rn_sl yk' 160 s)) :
    rr_N pn wp se wy ra it le pe op kd nu co cl si tk cn L S m (rn_P S g b sgn (s + 1)) (s + 1) 1 (nI L, pn, wp, nI m, nI S, se, fl, nI q', 0, nI (s + 1), 1, x, rs, sn, it, le, pe, op, kd, nu, co, cl, ap, rd, si, bg', ct', ls', hd', hk', hc', vl) (nI L, nI m, nI S, wy, nI q', ya, se, fl, x, vt, ot, ra, br, oc, it, le, tk, cn, kd, nu, lf', la', pc', yb', yh', yk', ho', ap, rd, si, vs, os) := by
  have hg := rn_sm_up g (fun t => if t = s + 1 then g t + 1 else g t) (s + 1) (if_pos rfl) (fun t ht => if_neg ht) (S + 1) (by omega)
  have hP : rn_P S g b sgn (s + 1) < rn_P S (fun t => if t = s + 1 then g t + 1 else g t) b 1 (s + 2) := by
    unfold rn_P rn_ph
    rw [hg]
    rcases hsg with rfl | rfl
    · simp <;> omega
    · simp <;> omega
  obtain ⟨h1, h2, h3, h4, h5, h6, h7, h8⟩ := id h
  have hes : e s + r1 + 1 ≤ e (s + 1) := by
    have a := h5 s hs
    have c := h6 s hs rfl
    rcases hr with hr | ⟨z, hr⟩
    · omega
    · have := c z; omega
  refine Or.inr ⟨_, hP, Or.inr (Or.inl ⟨rfl, q', (fun t => if t = s + 1 then g t + 1 else g t), (fun t => if t = s + 1 then e t - 1 else e t), (fun t => if t = s then r1 else r t), b, fl, x, rs, sn, ya, x, vt, ot, br, oc, ap, rd, bg', ct', ls', hd', hk', hc', lf', la', pc', yb', yh', yk', ho', vl, vs, os, rfl, rfl, fun _ => rfl, rfl, ?_⟩)⟩
  refine dd_upd hkd h (Nat.le_of_lt hP) hF (fun t ht => if_neg (by omega)) (fun t ht => if_neg ht) (fun t _ => rfl) ?_ hqL ?_ ?_ ?_ ?_ h8
  · unfold dd_S
    try dsimp only
    rw [hk0, if_pos rfl, if_pos rfl]
    exact hT _ hP
  · intro t ht
    have a := h4 t ht
    try dsimp only
    by_cases et : t = s + 1
    · rw [if_pos et, if_pos et]; subst et; omega
    · rw [if_neg et, if_neg et]; omega
  · intro t ht
    have a := h5 t ht
    try dsimp only
    by_cases et : t = s
    · subst et
      rw [if_neg (by omega), if_pos rfl, if_pos rfl]; omega
    · rw [if_neg et, if_neg (c := t + 1 = s + 1) (by omega)]
      by_cases e2 : t = s + 1
      · rw [if_pos e2]; omega
      · rw [if_neg e2]; exact a
  · intro t ht hp _
    have : t = s + 1 := by omega
    subst this
    have a := h5 (s + 1) ht
    try dsimp only
    rw [if_pos rfl, if_neg (by omega), if_neg (by omega)]
    omega
  · intro t ht hp hc'
    exact h7 t ht (Or.inl (by omega)) hc'
theorem md_pay (x : Int32) (hkd : ∀ t, t < S → (kd t).toNatClampNeg ≤ 16) (hS : S ≤ 8) (hs : s < S) (h : dd_D S L m le kd nu g e r b sgn (s + 1) q sn ya bg ct ls hd hk hc lf la pc yb yh yk ho) (hF : fr_F s bg ct ls hd hk hc lf la pc yb yh yk ho bg' ct' ls' hd' hk' hc' lf' la' pc' yb' yh' yk' ho') (hsg : sgn = 0 ∨ sgn = 1) (hr : r1 ≤ r s ∨ (sgn = 1 ∧ r1 ≤ r s + 1)) (hq : q + 1 ≤ q') (hqL : q' ≤ L) (hk0 : (kd s).toNatClampNeg = k)
    (hT : ∀ P' : Nat, rn_P S g b sgn (s + 1) < P' → dd_T k (nu s) (rn_zl le nu s) P' (g (s + 1) + 1) r1 (b s) (bg' s) (ct' s) (ls' s) (hc' s) (rn_sl hd' 150 s) (rn_sl hk' 150 s) (lf' s) (la' s) (pc' s) (yb' s) (ho' s) (rn_sl yh' 160 s) (rn_sl yk' 160 s)) :
    rr_N pn wp se wy ra it le pe op kd nu co cl si tk cn L S m (rn_P S g b sgn (s + 1)) (s + 1) 1 (nI L, pn, wp, nI m, nI S, se, fl, nI q', 0, nI (s + 1), 1, x, rs, sn, it, le, pe, op, kd, nu, co, cl, ap, rd, si, bg', ct', ls', hd', hk', hc', vl) (nI L, nI m, nI S, wy, nI q', ya, se, fl, x, vt, ot, ra, br, oc, it, le, tk, cn, kd, nu, lf', la', pc', yb', yh', yk', ho', ap, rd, si, vs, os) := by
  have hg := rn_sm_up g (fun t => if t = s + 1 then g t + 1 else g t) (s + 1) (if_pos rfl) (fun t ht => if_neg ht) (S + 1) (by omega)
  have hP : rn_P S g b sgn (s + 1) < rn_P S (fun t => if t = s + 1 then g t + 1 else g t) b 1 (s + 2) := by
    unfold rn_P rn_ph
    rw [hg]
    rcases hsg with rfl | rfl
    · simp <;> omega
    · simp <;> omega
  obtain ⟨h1, h2, h3, h4, h5, h6, h7, h8⟩ := id h
  have hes : e s + r1 ≤ e (s + 1) := by
    have a := h5 s hs
    have c := h6 s hs rfl
    rcases hr with hr | ⟨z, hr⟩
    · omega
    · have := c z; omega
  refine Or.inr ⟨_, hP, Or.inr (Or.inl ⟨rfl, q', (fun t => if t = s + 1 then g t + 1 else g t), (fun t => if s + 1 < t then e t + 1 else e t), (fun t => if t = s then r1 else r t), b, fl, x, rs, sn, ya, x, vt, ot, br, oc, ap, rd, bg', ct', ls', hd', hk', hc', lf', la', pc', yb', yh', yk', ho', vl, vs, os, rfl, rfl, fun _ => rfl, rfl, ?_⟩)⟩
  refine dd_upd hkd h (Nat.le_of_lt hP) hF (fun t ht => if_neg (by omega)) (fun t ht => if_neg ht) (fun t _ => rfl) ?_ hqL ?_ ?_ ?_ ?_ h8
  · unfold dd_S
    try dsimp only
    rw [hk0, if_pos rfl, if_pos rfl]
    exact hT _ hP
  · intro t ht
    have a := h4 t ht
    try dsimp only
    by_cases et : t = s + 1
    · rw [if_pos et, if_neg (by omega)]; omega
    · rw [if_neg et]
      split <;> omega
  · intro t ht
    have a := h5 t ht
    try dsimp only
    by_cases et : t = s
    · subst et
      rw [if_neg (by omega), if_pos rfl, if_neg (by omega)]; exact hes
    · rw [if_neg et]
      split
      · rw [if_pos (by omega)]; omega
      · split <;> omega
  · intro t ht hp _
    have : t = s + 1 := by omega
    subst this
    have a := h5 (s + 1) ht
    try dsimp only
    rw [if_neg (by omega), if_neg (by omega), if_pos (by omega)]
    omega
  · intro t ht hp hc'
    exact h7 t ht (Or.inl (by omega)) hc'
theorem md_end (hkd : ∀ t, t < S → (kd t).toNatClampNeg ≤ 16) (hS : S ≤ 8) (hs : s < S) (h : dd_D S L m le kd nu g e r b sgn (s + 1) q sn ya bg ct ls hd hk hc lf la pc yb yh yk ho) (hF : fr_F s bg ct ls hd hk hc lf la pc yb yh yk ho bg' ct' ls' hd' hk' hc' lf' la' pc' yb' yh' yk' ho') (hsg : sgn = 0 ∨ sgn = 1 ∨ sgn = 2) (hq : q ≤ q') (hqL : q' ≤ L) (hk0 : (kd s).toNatClampNeg = k)
    (hT : ∀ P' : Nat, rn_P S g b sgn (s + 1) < P' → dd_T k (nu s) (rn_zl le nu s) P' (g (s + 1)) (r s) (b s) (bg' s) (ct' s) (ls' s) (hc' s) (rn_sl hd' 150 s) (rn_sl hk' 150 s) (lf' s) (la' s) (pc' s) (yb' s) (ho' s) (rn_sl yh' 160 s) (rn_sl yk' 160 s)) :
    rr_N pn wp se wy ra it le pe op kd nu co cl si tk cn L S m (rn_P S g b sgn (s + 1)) (s + 1) 0 (nI L, pn, wp, nI m, nI S, se, fl, nI q', 0, nI (s + 1), 2, el, rs, sn, it, le, pe, op, kd, nu, co, cl, ap, rd, si, bg', ct', ls', hd', hk', hc', vl) (nI L, nI m, nI S, wy, nI q', ya, se, fl, vv, vt, ot, ra, br, oc, it, le, tk, cn, kd, nu, lf', la', pc', yb', yh', yk', ho', ap, rd, si, vs, os) := by
  have hP : rn_P S g b sgn (s + 1) < rn_P S g b 2 (s + 2) := by
    unfold rn_P rn_ph
    rcases hsg with rfl | rfl | rfl
    · simp <;> omega
    · simp <;> omega
    · simp
  obtain ⟨h1, h2, h3, h4, h5, h6, h7, h8⟩ := id h
  refine Or.inr ⟨_, hP, Or.inr (Or.inr ⟨rfl, q', g, e, r, b, fl, el, rs, sn, ya, vv, vt, ot, br, oc, ap, rd, bg', ct', ls', hd', hk', hc', lf', la', pc', yb', yh', yk', ho', vl, vs, os, rfl, rfl, fun z => absurd z (by decide), rfl, ?_⟩)⟩
  refine dd_upd hkd h (Nat.le_of_lt hP) hF (fun t _ => rfl) (fun t ht => rfl) (fun t _ => rfl) ?_ hqL (fun t ht => Nat.le_trans (h4 t ht) hq) h5 (fun t _ _ z => absurd z (by decide)) ?_ h8
  · unfold dd_S
    try dsimp only
    rw [hk0]
    exact hT _ hP
  · intro t ht hp hc'
    exact h7 t ht (Or.inl (by omega)) hc'
/-- the component's step before it asks the same stage again -/
theorem md_beg (hkd : ∀ t, t < S → (kd t).toNatClampNeg ≤ 16) (hS : S ≤ 8) (hs : s < S) (h : dd_D S L m le kd nu g e r b 2 (s + 1) q sn ya bg ct ls hd hk hc lf la pc yb yh yk ho) (hF : fr_F s bg ct ls hd hk hc lf la pc yb yh yk ho bg' ct' ls' hd' hk' hc' lf' la' pc' yb' yh' yk' ho') (hc1 : rn_cl k) (hk0 : (kd s).toNatClampNeg = k)
    (hT : ∀ P' : Nat, rn_P S g b 2 (s + 1) < P' → dd_T k (nu s) (rn_zl le nu s) P' (g (s + 1)) (r s) 1 (bg' s) (ct' s) (ls' s) (hc' s) (rn_sl hd' 150 s) (rn_sl hk' 150 s) (lf' s) (la' s) (pc' s) (yb' s) (ho' s) (rn_sl yh' 160 s) (rn_sl yk' 160 s)) :
    rn_P S g b 2 (s + 1) < rn_P S g (fun t => if t = s then 1 else b t) 0 (s + 1) ∧ dd_D S L m le kd nu g e r (fun t => if t = s then 1 else b t) 0 (s + 1) q sn ya bg' ct' ls' hd' hk' hc' lf' la' pc' yb' yh' yk' ho' := by
  obtain ⟨h1, h2, h3, h4, h5, h6, h7, h8⟩ := id h
  have hb0 : b s = 0 := h7 s hs (Or.inr ⟨rfl, by decide⟩) (by rw [hk0]; exact hc1)
  have hbs := rn_sm_up b (fun t => if t = s then 1 else b t) s (by rw [if_pos rfl, hb0]) (fun t ht => if_neg ht) S hs
  have hP : rn_P S g b 2 (s + 1) < rn_P S g (fun t => if t = s then 1 else b t) 0 (s + 1) := by
    unfold rn_P rn_ph
    rw [hbs]
    simp <;> omega
  refine ⟨hP, dd_upd hkd h (Nat.le_of_lt hP) hF (fun t _ => rfl) (fun t ht => rfl) (fun t ht => if_neg ht) ?_ h1 h4 h5 (fun t _ _ z => absurd z (by decide)) ?_ ?_⟩
  · unfold dd_S
    try dsimp only
    rw [hk0, if_pos rfl]
    exact hT _ hP
  · intro t ht hp hc'
    try dsimp only
    have : t ≠ s := by rcases hp with hp | ⟨_, z⟩; omega; exact absurd rfl z
    rw [if_neg this]
    refine h7 t ht (Or.inl ?_) hc'
    rcases hp with hp | ⟨_, z⟩
    · exact hp
    · exact absurd rfl z
  · intro t
    try dsimp only
    split
    · omega
    · exact h8 t
theorem md_beg1 (hkd : ∀ t, t < S → (kd t).toNatClampNeg ≤ 16) (hS : S ≤ 8) (hs : s < S) (h : dd_D S L m le kd nu g e r b 1 (s + 1) q sn ya bg ct ls hd hk hc lf la pc yb yh yk ho) (hF : fr_F s bg ct ls hd hk hc lf la pc yb yh yk ho bg' ct' ls' hd' hk' hc' lf' la' pc' yb' yh' yk' ho') (hk0 : (kd s).toNatClampNeg = k)
    (hT : ∀ P' : Nat, rn_P S g b 1 (s + 1) < P' → dd_T k (nu s) (rn_zl le nu s) P' (g (s + 1)) (r s) (b s) (bg' s) (ct' s) (ls' s) (hc' s) (rn_sl hd' 150 s) (rn_sl hk' 150 s) (lf' s) (la' s) (pc' s) (yb' s) (ho' s) (rn_sl yh' 160 s) (rn_sl yk' 160 s)) :
    rn_P S g b 1 (s + 1) < rn_P S g b 0 (s + 1) ∧ dd_D S L m le kd nu g e r b 0 (s + 1) q sn ya bg' ct' ls' hd' hk' hc' lf' la' pc' yb' yh' yk' ho' := by
  obtain ⟨h1, h2, h3, h4, h5, h6, h7, h8⟩ := id h
  have hP : rn_P S g b 1 (s + 1) < rn_P S g b 0 (s + 1) := by
    unfold rn_P rn_ph
    simp <;> omega
  refine ⟨hP, dd_upd hkd h (Nat.le_of_lt hP) hF (fun t _ => rfl) (fun t ht => rfl) (fun t ht => rfl) ?_ h1 h4 h5 (fun t _ _ z => absurd z (by decide)) ?_ h8⟩
  · unfold dd_S
    try dsimp only
    rw [hk0]
    exact hT _ hP
  · intro t ht hp hc'
    refine h7 t ht (Or.inl ?_) hc'
    rcases hp with hp | ⟨_, z⟩
    · exact hp
    · exact absurd rfl z
theorem md_out {P p : Nat} {oe : Int64} (h : oe ≠ 0) : rr_N pn wp se wy ra it le pe op kd nu co cl si tk cn L S m P p 3 (nI L, pn, wp, nI m, nI S, se, fl, nI q, oe, pt, sg, el, rs, sn, it, le, pe, op, kd, nu, co, cl, ap, rd, si, bg, ct, ls, hd, hk, hc, vl) (nI L, nI m, nI S, wy, nI q, ya, se, fl, vv, vt, ot, ra, br, oe, it, le, tk, cn, kd, nu, lf, la, pc, yb, yh, yk, ho, ap, rd, si, vs, os) :=
  Or.inl ⟨rfl, q, oe, fl, pt, sg, el, rs, sn, ya, vv, vt, ot, br, ap, rd, bg, ct, ls, hd, hk, hc, lf, la, pc, yb, yh, yk, ho, vl, vs, os, h, rfl, rfl⟩
theorem rr_Nm {P P' p : Nat} {act : Int32} {u : SX} {v : SY} (hP : P ≤ P') (h : rr_N pn wp se wy ra it le pe op kd nu co cl si tk cn L S m P' p act u v) : rr_N pn wp se wy ra it le pe op kd nu co cl si tk cn L S m P p act u v := by
  rcases h with h | ⟨P2, a, c⟩
  · exact Or.inl h
  · exact Or.inr ⟨P2, by omega, c⟩
end
end
section
theorem sx_eta {post : SX → Prop} {u : SX} (h : post u) : (match u with | (a1, a2, a3, a4, a5, a6, a7, a8, a9, a10, a11, a12, a13, a14, a15, a16, a17, a18, a19, a20, a21, a22, a23, a24, a25, a26, a27, a28, a29, a30, a31, a32) => post (a1, a2, a3, a4, a5, a6, a7, a8, a9, a10, a11, a12, a13, a14, a15, a16, a17, a18, a19, a20, a21, a22, a23, a24, a25, a26, a27, a28, a29, a30, a31, a32)) := by
  obtain ⟨a1, a2, a3, a4, a5, a6, a7, a8, a9, a10, a11, a12, a13, a14, a15, a16, a17, a18, a19, a20, a21, a22, a23, a24, a25, a26, a27, a28, a29, a30, a31, a32⟩ := u
  exact h
theorem sy_eta {post : Int32 → SY → Prop} {c : Int32} {u : SY} (h : post c u) : (match u with | (a1, a2, a3, a4, a5, a6, a7, a8, a9, a10, a11, a12, a13, a14, a15, a16, a17, a18, a19, a20, a21, a22, a23, a24, a25, a26, a27, a28, a29, a30, a31, a32) => post c (a1, a2, a3, a4, a5, a6, a7, a8, a9, a10, a11, a12, a13, a14, a15, a16, a17, a18, a19, a20, a21, a22, a23, a24, a25, a26, a27, a28, a29, a30, a31, a32)) := by
  obtain ⟨a1, a2, a3, a4, a5, a6, a7, a8, a9, a10, a11, a12, a13, a14, a15, a16, a17, a18, a19, a20, a21, a22, a23, a24, a25, a26, a27, a28, a29, a30, a31, a32⟩ := u
  exact h
theorem vn_1 : vp_nar .boolean 1 = 1 := by decide
theorem vn_0 : vp_nar .boolean 0 = 0 := by decide
section
variable {lm pn wp sr sc se fl sp pt sg el rs sn wy ya vv vt ot ra br : Int32} {en oc : Int64} {it le pe op kd nu co cl ap rd si bg ct ls hd hk hc vl tk cn lf la pc yb yh yk ho vs os : Nat → Int32}
variable {bg' ct' ls' hd' hk' hc' lf' la' pc' yb' yh' yk' ho' : Nat → Int32} {S L m q s sgn k : Nat} {g e r b : Nat → Nat} {x y : Int32}
theorem xr_ask {post : SX → Prop} (h : post (lm, pn, wp, sr, sc, se, fl, sp, en, rn_aI s, 0, el, rs, sn, it, le, pe, op, kd, nu, co, cl, ap, rd, si, bg, ct, ls, hd, hk, hc, vl)) : wpX_ask post (lm, pn, wp, sr, sc, se, fl, sp, en, nI s, sg, el, rs, sn, it, le, pe, op, kd, nu, co, cl, ap, rd, si, bg, ct, ls, hd, hk, hc, vl) := nm_r (rn_pred s) h
theorem xr_give {post : SX → Prop} (h : post (lm, pn, wp, sr, sc, se, fl, sp, en, nI (s + 1), 1, y, rs, sn, it, le, pe, op, kd, nu, co, cl, ap, rd, si, bg, ct, ls, hd, hk, hc, vl)) : wpX_give post (lm, pn, wp, sr, sc, se, fl, sp, en, nI s, sg, el, rs, sn, it, le, pe, op, kd, nu, co, cl, ap, rd, si, bg, ct, ls, hd, hk, hc, vl) y := nm_r (nI_1 s) h
theorem xr_end {post : SX → Prop} (h : post (lm, pn, wp, sr, sc, se, fl, sp, en, nI (s + 1), 2, el, rs, sn, it, le, pe, op, kd, nu, co, cl, ap, rd, si, bg, ct, ls, hd, hk, hc, vl)) : wpX_end post (lm, pn, wp, sr, sc, se, fl, sp, en, nI s, sg, el, rs, sn, it, le, pe, op, kd, nu, co, cl, ap, rd, si, bg, ct, ls, hd, hk, hc, vl) := nm_r (nI_1 s) h
theorem fr_id : fr_F s bg ct ls hd hk hc lf la pc yb yh yk ho bg ct ls hd hk hc lf la pc yb yh yk ho := ⟨fun _ _ => ⟨rfl, rfl, rfl, rfl, rfl, rfl, rfl, rfl, rfl⟩, fun _ _ => ⟨rfl, rfl⟩, fun _ _ => ⟨rfl, rfl⟩⟩
theorem dd_get (h : dd_D S L m le kd nu g e r b sgn (s + 1) q sn ya bg ct ls hd hk hc lf la pc yb yh yk ho) (hs : s < S) (hk0 : kd s = nI k) (hk1 : k ≤ 16) : dd_T k (nu s) (rn_zl le nu s) (rn_P S g b sgn (s + 1)) (g (s + 1)) (r s) (b s) (bg s) (ct s) (ls s) (hc s) (rn_sl hd 150 s) (rn_sl hk 150 s) (lf s) (la s) (pc s) (yb s) (ho s) (rn_sl yh 160 s) (rn_sl yk 160 s) := by
  have := h.2.2.1 s hs
  unfold dd_S at this
  rw [hk0, nI_clamp (by omega)] at this
  exact this
theorem as_ask (hkd : ∀ t, t < S → (kd t).toNatClampNeg ≤ 16) (hS : S ≤ 8) (hL : L ≤ 150) (hs : s < S) (hv : vp_in x 8) (hx : x.toNatClampNeg = s) (h : dd_D S L m le kd nu g e r b 0 (s + 1) q sn ya bg ct ls hd hk hc lf la pc yb yh yk ho) (hk0 : kd s = nI k) (hk1 : k ≤ 16) (hw : rn_cl k → b s = 0) (hX : ∀ post : SX → Prop, post (nI L, pn, wp, nI m, nI S, se, fl, nI q, 0, rn_aI s, 0, el, rs, sn, it, le, pe, op, kd, nu, co, cl, ap, rd, si, bg, ct, ls, hd, hk, hc, vl) → wpX_stageAsked post (nI L, pn, wp, nI m, nI S, se, fl, nI q, 0, nI s, 0, el, rs, sn, it, le, pe, op, kd, nu, co, cl, ap, rd, si, bg, ct, ls, hd, hk, hc, vl) x) (hY : ∀ post : Int32 → SY → Prop, post 2 (nI L, nI m, nI S, wy, nI q, ya, se, fl, vv, vt, ot, ra, br, oc, it, le, tk, cn, kd, nu, lf, la, pc, yb, yh, yk, ho, ap, rd, si, vs, os) → wpY_asked post (nI L, nI m, nI S, wy, nI q, ya, se, fl, vv, vt, ot, ra, br, oc, it, le, tk, cn, kd, nu, lf, la, pc, yb, yh, yk, ho, ap, rd, si, vs, os) x) : ∃ (act : Int32) (u1 : SX) (v1 : SY), (∀ post : SX → Prop, post u1 → wpX_stageAsked post (nI L, pn, wp, nI m, nI S, se, fl, nI q, 0, nI s, 0, el, rs, sn, it, le, pe, op, kd, nu, co, cl, ap, rd, si, bg, ct, ls, hd, hk, hc, vl) x) ∧ (∀ post : Int32 → SY → Prop, post act v1 → wpY_asked post (nI L, nI m, nI S, wy, nI q, ya, se, fl, vv, vt, ot, ra, br, oc, it, le, tk, cn, kd, nu, lf, la, pc, yb, yh, yk, ho, ap, rd, si, vs, os) x) ∧ rr_N pn wp se wy ra it le pe op kd nu co cl si tk cn L S m (rn_P S g b 0 (s + 1)) (s + 1) act u1 v1 :=
  ⟨2, _, _, hX, hY, md_ask hkd hS hs h fr_id (Or.inl rfl) (Or.inl (Nat.le_refl _)) hw (Nat.le_refl _) h.1 (by rw [hk0]; exact nI_clamp (by omega)) (fun P' hP => dd_mono hk1 (Nat.le_of_lt hP) (dd_get h hs hk0 hk1))⟩
theorem as_0 (hkd : ∀ t, t < S → (kd t).toNatClampNeg ≤ 16) (hS : S ≤ 8) (hL : L ≤ 150) (hs : s < S) (hv : vp_in x 8) (hx : x.toNatClampNeg = s) (h : dd_D S L m le kd nu g e r b 0 (s + 1) q sn ya bg ct ls hd hk hc lf la pc yb yh yk ho) (hk0 : kd s = nI 0) : ∃ (act : Int32) (u1 : SX) (v1 : SY), (∀ post : SX → Prop, post u1 → wpX_stageAsked post (nI L, pn, wp, nI m, nI S, se, fl, nI q, 0, nI s, 0, el, rs, sn, it, le, pe, op, kd, nu, co, cl, ap, rd, si, bg, ct, ls, hd, hk, hc, vl) x) ∧ (∀ post : Int32 → SY → Prop, post act v1 → wpY_asked post (nI L, nI m, nI S, wy, nI q, ya, se, fl, vv, vt, ot, ra, br, oc, it, le, tk, cn, kd, nu, lf, la, pc, yb, yh, yk, ho, ap, rd, si, vs, os) x) ∧ rr_N pn wp se wy ra it le pe op kd nu co cl si tk cn L S m (rn_P S g b 0 (s + 1)) (s + 1) act u1 v1 := by
  refine as_ask hkd hS hL hs hv hx h hk0 (by omega) (fun z => absurd z (by simp [rn_cl])) (fun post hp => ?_) (fun post hp => ?_)
  all_goals subst hx
  · exact ⟨hv, nm_r hk0 (br_t (by decide) (xr_ask hp))⟩
  · exact ⟨hv, nm_r hk0 (br_t (by decide) (hp))⟩
theorem as_1 (hkd : ∀ t, t < S → (kd t).toNatClampNeg ≤ 16) (hS : S ≤ 8) (hL : L ≤ 150) (hs : s < S) (hv : vp_in x 8) (hx : x.toNatClampNeg = s) (h : dd_D S L m le kd nu g e r b 0 (s + 1) q sn ya bg ct ls hd hk hc lf la pc yb yh yk ho) (hk0 : kd s = nI 1) : ∃ (act : Int32) (u1 : SX) (v1 : SY), (∀ post : SX → Prop, post u1 → wpX_stageAsked post (nI L, pn, wp, nI m, nI S, se, fl, nI q, 0, nI s, 0, el, rs, sn, it, le, pe, op, kd, nu, co, cl, ap, rd, si, bg, ct, ls, hd, hk, hc, vl) x) ∧ (∀ post : Int32 → SY → Prop, post act v1 → wpY_asked post (nI L, nI m, nI S, wy, nI q, ya, se, fl, vv, vt, ot, ra, br, oc, it, le, tk, cn, kd, nu, lf, la, pc, yb, yh, yk, ho, ap, rd, si, vs, os) x) ∧ rr_N pn wp se wy ra it le pe op kd nu co cl si tk cn L S m (rn_P S g b 0 (s + 1)) (s + 1) act u1 v1 := by
  refine as_ask hkd hS hL hs hv hx h hk0 (by omega) (fun z => absurd z (by simp [rn_cl])) (fun post hp => ?_) (fun post hp => ?_)
  all_goals subst hx
  · exact ⟨hv, nm_r hk0 (br_t (by decide) (xr_ask hp))⟩
  · exact ⟨hv, nm_r hk0 (br_t (by decide) (hp))⟩
theorem as_2 (hkd : ∀ t, t < S → (kd t).toNatClampNeg ≤ 16) (hS : S ≤ 8) (hL : L ≤ 150) (hs : s < S) (hv : vp_in x 8) (hx : x.toNatClampNeg = s) (h : dd_D S L m le kd nu g e r b 0 (s + 1) q sn ya bg ct ls hd hk hc lf la pc yb yh yk ho) (hk0 : kd s = nI 2) : ∃ (act : Int32) (u1 : SX) (v1 : SY), (∀ post : SX → Prop, post u1 → wpX_stageAsked post (nI L, pn, wp, nI m, nI S, se, fl, nI q, 0, nI s, 0, el, rs, sn, it, le, pe, op, kd, nu, co, cl, ap, rd, si, bg, ct, ls, hd, hk, hc, vl) x) ∧ (∀ post : Int32 → SY → Prop, post act v1 → wpY_asked post (nI L, nI m, nI S, wy, nI q, ya, se, fl, vv, vt, ot, ra, br, oc, it, le, tk, cn, kd, nu, lf, la, pc, yb, yh, yk, ho, ap, rd, si, vs, os) x) ∧ rr_N pn wp se wy ra it le pe op kd nu co cl si tk cn L S m (rn_P S g b 0 (s + 1)) (s + 1) act u1 v1 := by
  have hT := dd_get h hs hk0 (by omega)
  have hT : ct s = lf s := hT
  by_cases hc1 : nu s ≤ ct s
  · refine ⟨0, (nI L, pn, wp, nI m, nI S, se, fl, nI q, 0, nI (s + 1), 2, el, rs, sn, it, le, pe, op, kd, nu, co, cl, ap, rd, si, bg, ct, ls, hd, hk, hc, vl), (nI L, nI m, nI S, wy, nI q, ya, se, fl, vv, vt, ot, ra, br, oc, it, le, tk, cn, kd, nu, lf, la, pc, yb, yh, yk, ho, ap, rd, si, vs, os), fun post hp => ?_, fun post hp => ?_, md_end hkd hS hs h fr_id (Or.inl rfl) (Nat.le_refl _) h.1 (by rw [hk0]; exact nI_clamp (by omega)) (fun P' hP => dd_mono (by omega) (Nat.le_of_lt hP) (dd_get h hs hk0 (by omega)))⟩
    all_goals subst hx
    · exact ⟨hv, nm_r hk0 (br_f (by decide) (br_f (by decide) (br_t rfl (⟨hv, hv, br_t hc1 (xr_end hp)⟩))))⟩
    · exact ⟨hv, nm_r hk0 (br_f (by decide) (br_f (by decide) (br_t rfl (⟨hv, hv, br_f (by rw [← hT]; exact Int32.not_lt.mpr hc1) hp⟩))))⟩
  · refine as_ask hkd hS hL hs hv hx h hk0 (by omega) (fun z => absurd z (by simp [rn_cl])) (fun post hp => ?_) (fun post hp => ?_)
    all_goals subst hx
    · exact ⟨hv, nm_r hk0 (br_f (by decide) (br_f (by decide) (br_t rfl (⟨hv, hv, br_f hc1 (xr_ask hp)⟩))))⟩
    · exact ⟨hv, nm_r hk0 (br_f (by decide) (br_f (by decide) (br_t rfl (⟨hv, hv, br_t (by rw [← hT]; exact Int32.not_le.mp hc1) hp⟩))))⟩
theorem as_3 (hkd : ∀ t, t < S → (kd t).toNatClampNeg ≤ 16) (hS : S ≤ 8) (hL : L ≤ 150) (hs : s < S) (hv : vp_in x 8) (hx : x.toNatClampNeg = s) (h : dd_D S L m le kd nu g e r b 0 (s + 1) q sn ya bg ct ls hd hk hc lf la pc yb yh yk ho) (hk0 : kd s = nI 3) : ∃ (act : Int32) (u1 : SX) (v1 : SY), (∀ post : SX → Prop, post u1 → wpX_stageAsked post (nI L, pn, wp, nI m, nI S, se, fl, nI q, 0, nI s, 0, el, rs, sn, it, le, pe, op, kd, nu, co, cl, ap, rd, si, bg, ct, ls, hd, hk, hc, vl) x) ∧ (∀ post : Int32 → SY → Prop, post act v1 → wpY_asked post (nI L, nI m, nI S, wy, nI q, ya, se, fl, vv, vt, ot, ra, br, oc, it, le, tk, cn, kd, nu, lf, la, pc, yb, yh, yk, ho, ap, rd, si, vs, os) x) ∧ rr_N pn wp se wy ra it le pe op kd nu co cl si tk cn L S m (rn_P S g b 0 (s + 1)) (s + 1) act u1 v1 := by
  refine as_ask hkd hS hL hs hv hx h hk0 (by omega) (fun z => absurd z (by simp [rn_cl])) (fun post hp => ?_) (fun post hp => ?_)
  all_goals subst hx
  · exact ⟨hv, nm_r hk0 (br_f (by decide) (br_f (by decide) (br_f (by decide) (br_t rfl (xr_ask hp)))))⟩
  · exact ⟨hv, nm_r hk0 (br_f (by decide) (br_f (by decide) (br_f (by decide) (br_t rfl (hp)))))⟩
theorem as_4 (hkd : ∀ t, t < S → (kd t).toNatClampNeg ≤ 16) (hS : S ≤ 8) (hL : L ≤ 150) (hs : s < S) (hv : vp_in x 8) (hx : x.toNatClampNeg = s) (h : dd_D S L m le kd nu g e r b 0 (s + 1) q sn ya bg ct ls hd hk hc lf la pc yb yh yk ho) (hk0 : kd s = nI 4) : ∃ (act : Int32) (u1 : SX) (v1 : SY), (∀ post : SX → Prop, post u1 → wpX_stageAsked post (nI L, pn, wp, nI m, nI S, se, fl, nI q, 0, nI s, 0, el, rs, sn, it, le, pe, op, kd, nu, co, cl, ap, rd, si, bg, ct, ls, hd, hk, hc, vl) x) ∧ (∀ post : Int32 → SY → Prop, post act v1 → wpY_asked post (nI L, nI m, nI S, wy, nI q, ya, se, fl, vv, vt, ot, ra, br, oc, it, le, tk, cn, kd, nu, lf, la, pc, yb, yh, yk, ho, ap, rd, si, vs, os) x) ∧ rr_N pn wp se wy ra it le pe op kd nu co cl si tk cn L S m (rn_P S g b 0 (s + 1)) (s + 1) act u1 v1 := by
  refine as_ask hkd hS hL hs hv hx h hk0 (by omega) (fun z => absurd z (by simp [rn_cl])) (fun post hp => ?_) (fun post hp => ?_)
  all_goals subst hx
  · exact ⟨hv, nm_r hk0 (br_f (by decide) (br_f (by decide) (br_f (by decide) (br_f (by decide) (br_t rfl (xr_ask hp))))))⟩
  · exact ⟨hv, nm_r hk0 (br_f (by decide) (br_f (by decide) (br_f (by decide) (br_f (by decide) (br_t rfl (hp))))))⟩
theorem as_5 (hkd : ∀ t, t < S → (kd t).toNatClampNeg ≤ 16) (hS : S ≤ 8) (hL : L ≤ 150) (hs : s < S) (hv : vp_in x 8) (hx : x.toNatClampNeg = s) (h : dd_D S L m le kd nu g e r b 0 (s + 1) q sn ya bg ct ls hd hk hc lf la pc yb yh yk ho) (hk0 : kd s = nI 5) : ∃ (act : Int32) (u1 : SX) (v1 : SY), (∀ post : SX → Prop, post u1 → wpX_stageAsked post (nI L, pn, wp, nI m, nI S, se, fl, nI q, 0, nI s, 0, el, rs, sn, it, le, pe, op, kd, nu, co, cl, ap, rd, si, bg, ct, ls, hd, hk, hc, vl) x) ∧ (∀ post : Int32 → SY → Prop, post act v1 → wpY_asked post (nI L, nI m, nI S, wy, nI q, ya, se, fl, vv, vt, ot, ra, br, oc, it, le, tk, cn, kd, nu, lf, la, pc, yb, yh, yk, ho, ap, rd, si, vs, os) x) ∧ rr_N pn wp se wy ra it le pe op kd nu co cl si tk cn L S m (rn_P S g b 0 (s + 1)) (s + 1) act u1 v1 := by
  refine as_ask hkd hS hL hs hv hx h hk0 (by omega) (fun z => absurd z (by simp [rn_cl])) (fun post hp => ?_) (fun post hp => ?_)
  all_goals subst hx
  · exact ⟨hv, nm_r hk0 (br_f (by decide) (br_f (by decide) (br_f (by decide) (br_f (by decide) (br_f (by decide) (br_t rfl (xr_ask hp)))))))⟩
  · exact ⟨hv, nm_r hk0 (br_f (by decide) (br_f (by decide) (br_f (by decide) (br_f (by decide) (br_f (by decide) (br_t rfl (hp)))))))⟩
theorem as_8 (hkd : ∀ t, t < S → (kd t).toNatClampNeg ≤ 16) (hS : S ≤ 8) (hL : L ≤ 150) (hs : s < S) (hv : vp_in x 8) (hx : x.toNatClampNeg = s) (h : dd_D S L m le kd nu g e r b 0 (s + 1) q sn ya bg ct ls hd hk hc lf la pc yb yh yk ho) (hk0 : kd s = nI 8) : ∃ (act : Int32) (u1 : SX) (v1 : SY), (∀ post : SX → Prop, post u1 → wpX_stageAsked post (nI L, pn, wp, nI m, nI S, se, fl, nI q, 0, nI s, 0, el, rs, sn, it, le, pe, op, kd, nu, co, cl, ap, rd, si, bg, ct, ls, hd, hk, hc, vl) x) ∧ (∀ post : Int32 → SY → Prop, post act v1 → wpY_asked post (nI L, nI m, nI S, wy, nI q, ya, se, fl, vv, vt, ot, ra, br, oc, it, le, tk, cn, kd, nu, lf, la, pc, yb, yh, yk, ho, ap, rd, si, vs, os) x) ∧ rr_N pn wp se wy ra it le pe op kd nu co cl si tk cn L S m (rn_P S g b 0 (s + 1)) (s + 1) act u1 v1 := by
  refine as_ask hkd hS hL hs hv hx h hk0 (by omega) (fun z => absurd z (by simp [rn_cl])) (fun post hp => ?_) (fun post hp => ?_)
  all_goals subst hx
  · exact ⟨hv, nm_r hk0 (br_f (by decide) (br_f (by decide) (br_f (by decide) (br_f (by decide) (br_f (by decide) (br_f (by decide) (br_f (by decide) (br_f (by decide) (br_t rfl (xr_ask hp))))))))))⟩
  · exact ⟨hv, nm_r hk0 (br_f (by decide) (br_f (by decide) (br_f (by decide) (br_f (by decide) (br_f (by decide) (br_f (by decide) (br_f (by decide) (br_f (by decide) (br_t rfl (hp))))))))))⟩
theorem as_10 (hkd : ∀ t, t < S → (kd t).toNatClampNeg ≤ 16) (hS : S ≤ 8) (hL : L ≤ 150) (hs : s < S) (hv : vp_in x 8) (hx : x.toNatClampNeg = s) (h : dd_D S L m le kd nu g e r b 0 (s + 1) q sn ya bg ct ls hd hk hc lf la pc yb yh yk ho) (hk0 : kd s = nI 10) : ∃ (act : Int32) (u1 : SX) (v1 : SY), (∀ post : SX → Prop, post u1 → wpX_stageAsked post (nI L, pn, wp, nI m, nI S, se, fl, nI q, 0, nI s, 0, el, rs, sn, it, le, pe, op, kd, nu, co, cl, ap, rd, si, bg, ct, ls, hd, hk, hc, vl) x) ∧ (∀ post : Int32 → SY → Prop, post act v1 → wpY_asked post (nI L, nI m, nI S, wy, nI q, ya, se, fl, vv, vt, ot, ra, br, oc, it, le, tk, cn, kd, nu, lf, la, pc, yb, yh, yk, ho, ap, rd, si, vs, os) x) ∧ rr_N pn wp se wy ra it le pe op kd nu co cl si tk cn L S m (rn_P S g b 0 (s + 1)) (s + 1) act u1 v1 := by
  refine as_ask hkd hS hL hs hv hx h hk0 (by omega) (fun z => absurd z (by simp [rn_cl])) (fun post hp => ?_) (fun post hp => ?_)
  all_goals subst hx
  · exact ⟨hv, nm_r hk0 (br_f (by decide) (br_f (by decide) (br_f (by decide) (br_f (by decide) (br_f (by decide) (br_f (by decide) (br_f (by decide) (br_f (by decide) (br_f (by decide) (br_f (by decide) (br_t rfl (xr_ask hp))))))))))))⟩
  · exact ⟨hv, nm_r hk0 (br_f (by decide) (br_f (by decide) (br_f (by decide) (br_f (by decide) (br_f (by decide) (br_f (by decide) (br_f (by decide) (br_f (by decide) (br_f (by decide) (br_f (by decide) (br_t rfl (hp))))))))))))⟩
theorem as_12 (hkd : ∀ t, t < S → (kd t).toNatClampNeg ≤ 16) (hS : S ≤ 8) (hL : L ≤ 150) (hs : s < S) (hv : vp_in x 8) (hx : x.toNatClampNeg = s) (h : dd_D S L m le kd nu g e r b 0 (s + 1) q sn ya bg ct ls hd hk hc lf la pc yb yh yk ho) (hk0 : kd s = nI 12) : ∃ (act : Int32) (u1 : SX) (v1 : SY), (∀ post : SX → Prop, post u1 → wpX_stageAsked post (nI L, pn, wp, nI m, nI S, se, fl, nI q, 0, nI s, 0, el, rs, sn, it, le, pe, op, kd, nu, co, cl, ap, rd, si, bg, ct, ls, hd, hk, hc, vl) x) ∧ (∀ post : Int32 → SY → Prop, post act v1 → wpY_asked post (nI L, nI m, nI S, wy, nI q, ya, se, fl, vv, vt, ot, ra, br, oc, it, le, tk, cn, kd, nu, lf, la, pc, yb, yh, yk, ho, ap, rd, si, vs, os) x) ∧ rr_N pn wp se wy ra it le pe op kd nu co cl si tk cn L S m (rn_P S g b 0 (s + 1)) (s + 1) act u1 v1 := by
  refine as_ask hkd hS hL hs hv hx h hk0 (by omega) (fun z => absurd z (by simp [rn_cl])) (fun post hp => ?_) (fun post hp => ?_)
  all_goals subst hx
  · exact ⟨hv, nm_r hk0 (br_f (by decide) (br_f (by decide) (br_f (by decide) (br_f (by decide) (br_f (by decide) (br_f (by decide) (br_f (by decide) (br_f (by decide) (br_f (by decide) (br_f (by decide) (br_f (by decide) (br_f (by decide) (br_t rfl (xr_ask hp))))))))))))))⟩
  · exact ⟨hv, nm_r hk0 (br_f (by decide) (br_f (by decide) (br_f (by decide) (br_f (by decide) (br_f (by decide) (br_f (by decide) (br_f (by decide) (br_f (by decide) (br_f (by decide) (br_f (by decide) (br_f (by decide) (br_f (by decide) (br_t rfl (hp))))))))))))))⟩
theorem as_13 (hkd : ∀ t, t < S → (kd t).toNatClampNeg ≤ 16) (hS : S ≤ 8) (hL : L ≤ 150) (hs : s < S) (hv : vp_in x 8) (hx : x.toNatClampNeg = s) (h : dd_D S L m le kd nu g e r b 0 (s + 1) q sn ya bg ct ls hd hk hc lf la pc yb yh yk ho) (hk0 : kd s = nI 13) : ∃ (act : Int32) (u1 : SX) (v1 : SY), (∀ post : SX → Prop, post u1 → wpX_stageAsked post (nI L, pn, wp, nI m, nI S, se, fl, nI q, 0, nI s, 0, el, rs, sn, it, le, pe, op, kd, nu, co, cl, ap, rd, si, bg, ct, ls, hd, hk, hc, vl) x) ∧ (∀ post : Int32 → SY → Prop, post act v1 → wpY_asked post (nI L, nI m, nI S, wy, nI q, ya, se, fl, vv, vt, ot, ra, br, oc, it, le, tk, cn, kd, nu, lf, la, pc, yb, yh, yk, ho, ap, rd, si, vs, os) x) ∧ rr_N pn wp se wy ra it le pe op kd nu co cl si tk cn L S m (rn_P S g b 0 (s + 1)) (s + 1) act u1 v1 := by
  refine as_ask hkd hS hL hs hv hx h hk0 (by omega) (fun z => absurd z (by simp [rn_cl])) (fun post hp => ?_) (fun post hp => ?_)
  all_goals subst hx
  · exact ⟨hv, nm_r hk0 (br_f (by decide) (br_f (by decide) (br_f (by decide) (br_f (by decide) (br_f (by decide) (br_f (by decide) (br_f (by decide) (br_f (by decide) (br_f (by decide) (br_f (by decide) (br_f (by decide) (br_f (by decide) (br_f (by decide) (br_t rfl (xr_ask hp)))))))))))))))⟩
  · exact ⟨hv, nm_r hk0 (br_f (by decide) (br_f (by decide) (br_f (by decide) (br_f (by decide) (br_f (by decide) (br_f (by decide) (br_f (by decide) (br_f (by decide) (br_f (by decide) (br_f (by decide) (br_f (by decide) (br_f (by decide) (br_f (by decide) (br_t rfl (hp)))))))))))))))⟩
theorem as_6 (hkd : ∀ t, t < S → (kd t).toNatClampNeg ≤ 16) (hS : S ≤ 8) (hL : L ≤ 150) (hs : s < S) (hv : vp_in x 8) (hx : x.toNatClampNeg = s) (h : dd_D S L m le kd nu g e r b 0 (s + 1) q sn ya bg ct ls hd hk hc lf la pc yb yh yk ho) (hk0 : kd s = nI 6) : ∃ (act : Int32) (u1 : SX) (v1 : SY), (∀ post : SX → Prop, post u1 → wpX_stageAsked post (nI L, pn, wp, nI m, nI S, se, fl, nI q, 0, nI s, 0, el, rs, sn, it, le, pe, op, kd, nu, co, cl, ap, rd, si, bg, ct, ls, hd, hk, hc, vl) x) ∧ (∀ post : Int32 → SY → Prop, post act v1 → wpY_asked post (nI L, nI m, nI S, wy, nI q, ya, se, fl, vv, vt, ot, ra, br, oc, it, le, tk, cn, kd, nu, lf, la, pc, yb, yh, yk, ho, ap, rd, si, vs, os) x) ∧ rr_N pn wp se wy ra it le pe op kd nu co cl si tk cn L S m (rn_P S g b 0 (s + 1)) (s + 1) act u1 v1 := by
  have hT := dd_get h hs hk0 (by omega)
  obtain ⟨hT1, hT2⟩ : ct s = lf s ∧ (¬ ct s = 0 → ls s = la s) := hT
  have hkc : (kd s).toNatClampNeg = 6 := by rw [hk0]; exact nI_clamp (by omega)
  by_cases hc1 : ct s = 0
  · refine as_ask hkd hS hL hs hv hx h hk0 (by omega) (fun z => absurd z (by simp [rn_cl])) (fun post hp => ?_) (fun post hp => ?_)
    all_goals subst hx
    · exact ⟨hv, nm_r hk0 (br_f (by decide) (br_f (by decide) (br_f (by decide) (br_f (by decide) (br_f (by decide) (br_f (by decide) (br_t rfl (⟨hv, br_t hc1 (xr_ask hp)⟩))))))))⟩
    · exact ⟨hv, nm_r hk0 (br_f (by decide) (br_f (by decide) (br_f (by decide) (br_f (by decide) (br_f (by decide) (br_f (by decide) (br_t rfl (⟨hv, br_t (by rw [← hT1]; exact hc1) hp⟩))))))))⟩
  · by_cases hq : q < L
    · refine ⟨1, (nI L, pn, wp, nI m, nI S, se, fl, nI (q + 1), 0, nI (s + 1), 1, ls s, rs, sn, it, le, pe, op, kd, nu, co, cl, upd ap s (ap s + 1), rd, si, bg, upd ct s (ct s - 1), ls, hd, hk, hc, vl), (nI L, nI m, nI S, wy, nI (q + 1), ya, se, fl, ls s, vt, ot, ra, br, oc, it, le, tk, cn, kd, nu, upd lf s (lf s - 1), la, pc, yb, yh, yk, ho, upd ap s (ap s + 1), rd, si, vs, os), fun post hp => ?_, fun post hp => ?_, md_pay (ls s) hkd hS hs h (k := 6) (r1 := r s) ⟨fun t ht => by simp [pk_un ht], fun i hi => ⟨rfl, rfl⟩, fun i hi => ⟨rfl, rfl⟩⟩ (Or.inl rfl) (Or.inl (Nat.le_refl _)) (Nat.le_refl _) (by omega) hkc (fun P' hP => ?_)⟩
      · subst hx
        refine ⟨hv, nm_r hk0 (br_f (by decide) (br_f (by decide) (br_f (by decide) (br_f (by decide) (br_f (by decide) (br_f (by decide) (br_t rfl (⟨hv, br_f hc1 (xr_pay1 hL hq ?_)⟩))))))))⟩
        exact br_f (by decide) ⟨hv, hv, nm_e ⟨hv, hv, nm_e ⟨hv, xr_give hp⟩⟩⟩
      · subst hx
        refine ⟨hv, nm_r hk0 (br_f (by decide) (br_f (by decide) (br_f (by decide) (br_f (by decide) (br_f (by decide) (br_f (by decide) (br_t rfl (⟨hv, br_f (by rw [← hT1]; exact hc1) (yr_pay1 hL hq ?_)⟩))))))))⟩
        exact br_f (by decide) ⟨hv, hv, nm_e ⟨hv, hv, nm_e ⟨hv, nm_r (hT2 hc1).symm hp⟩⟩⟩
      · show upd ct s (ct s - 1) s = upd lf s (lf s - 1) s ∧ _
        rw [pk_us, pk_us, hT1]
        exact ⟨rfl, fun _ => hT2 hc1⟩
    · have : L = q := by have := h.1; omega
      subst this
      refine ⟨3, (nI L, pn, wp, nI m, nI S, se, fl, nI L, 9000000000000000001, nI s, 0, el, rs, sn, it, le, pe, op, kd, nu, co, cl, ap, rd, si, bg, ct, ls, hd, hk, hc, vl), (nI L, nI m, nI S, wy, nI L, ya, se, fl, vv, vt, ot, ra, br, 9000000000000000001, it, le, tk, cn, kd, nu, lf, la, pc, yb, yh, yk, ho, ap, rd, si, vs, os), fun post hp => ?_, fun post hp => ?_, md_out (oe := 9000000000000000001) (by decide)⟩
      · subst hx
        refine ⟨hv, nm_r hk0 (br_f (by decide) (br_f (by decide) (br_f (by decide) (br_f (by decide) (br_f (by decide) (br_f (by decide) (br_t rfl (⟨hv, br_f hc1 (xr_pay0 ?_)⟩))))))))⟩
        exact br_t rfl hp
      · subst hx
        refine ⟨hv, nm_r hk0 (br_f (by decide) (br_f (by decide) (br_f (by decide) (br_f (by decide) (br_f (by decide) (br_f (by decide) (br_t rfl (⟨hv, br_f (by rw [← hT1]; exact hc1) (yr_pay0 ?_)⟩))))))))⟩
        exact br_t rfl hp
end
end
section
section
variable {lm pn wp sr sc se fl sp pt sg el rs sn wy ya vv vt ot ra br : Int32} {en oc : Int64} {it le pe op kd nu co cl ap rd si bg ct ls hd hk hc vl tk cn lf la pc yb yh yk ho vs os : Nat → Int32}
variable {bg' ct' ls' hd' hk' hc' lf' la' pc' yb' yh' yk' ho' : Nat → Int32} {S L m q s sgn k : Nat} {g e r b : Nat → Nat} {x y : Int32}
theorem rn_apx {p : Nat} (hL : L ≤ 150) (hp : p ≤ L) (hv : vp_in x 8) (hx : x.toNatClampNeg = s) (hE : rl_Ex co cl tk cn s) (w z : Int32) :
    (∃ (oe : Int64) (p' : Nat) (fl' vv' vt' ot' br' : Int32) (ap' vl' vs' os' : Nat → Int32), oe ≠ 0 ∧
      (∀ post : Int32 → SX → Prop, post 0 (nI L, pn, wp, sr, sc, se, fl', nI p', oe, pt, sg, el, rs, sn, it, le, pe, op, kd, nu, co, cl, ap', rd, si, bg, ct, ls, hd, hk, hc, vl') → wpX_applies post (nI L, pn, wp, sr, sc, se, fl, nI p, en, pt, sg, el, rs, sn, it, le, pe, op, kd, nu, co, cl, ap, rd, si, bg, ct, ls, hd, hk, hc, vl) x w z) ∧
      (∀ post : Int32 → SY → Prop, post 0 (nI L, sr, sc, wy, nI p', ya, se, fl', vv', vt', ot', ra, br', oe, it, le, tk, cn, kd, nu, lf, la, pc, yb, yh, yk, ho, ap', rd, si, vs', os') → wpY_apply post (nI L, sr, sc, wy, nI p, ya, se, fl, vv, vt, ot, ra, br, oc, it, le, tk, cn, kd, nu, lf, la, pc, yb, yh, yk, ho, ap, rd, si, vs, os) x w z)) ∨
    (p < L ∧ ∃ (v vt' ot' br' : Int32) (vl' vs' os' : Nat → Int32),
      (∀ post : Int32 → SX → Prop, post 1 (nI L, pn, wp, sr, sc, se, fl, nI (p + 1), en, pt, sg, el, v, sn, it, le, pe, op, kd, nu, co, cl, upd ap s (ap s + 1), rd, si, bg, ct, ls, hd, hk, hc, vl') → wpX_applies post (nI L, pn, wp, sr, sc, se, fl, nI p, en, pt, sg, el, rs, sn, it, le, pe, op, kd, nu, co, cl, ap, rd, si, bg, ct, ls, hd, hk, hc, vl) x w z) ∧
      (∀ post : Int32 → SY → Prop, post 1 (nI L, sr, sc, wy, nI (p + 1), ya, se, fl, v, vt', ot', ra, br', oc, it, le, tk, cn, kd, nu, lf, la, pc, yb, yh, yk, ho, upd ap s (ap s + 1), rd, si, vs', os') → wpY_apply post (nI L, sr, sc, wy, nI p, ya, se, fl, vv, vt, ot, ra, br, oc, it, le, tk, cn, kd, nu, lf, la, pc, yb, yh, yk, ho, ap, rd, si, vs, os) x w z)) := by
  obtain ⟨j, hj, rfl⟩ := vp_in_of hv (by omega)
  rw [nI_clamp (by omega)] at hx
  subst hx
  exact rn_ap hL hp hj hE w z
theorem as_7 (hkd : ∀ t, t < S → (kd t).toNatClampNeg ≤ 16) (hS : S ≤ 8) (hL : L ≤ 150) (hs : s < S) (hv : vp_in x 8) (hx : x.toNatClampNeg = s) (h : dd_D S L m le kd nu g e r b 0 (s + 1) q sn ya bg ct ls hd hk hc lf la pc yb yh yk ho) (hk0 : kd s = nI 7) (hE : rl_Ex co cl tk cn s) : ∃ (act : Int32) (u1 : SX) (v1 : SY), (∀ post : SX → Prop, post u1 → wpX_stageAsked post (nI L, pn, wp, nI m, nI S, se, fl, nI q, 0, nI s, 0, el, rs, sn, it, le, pe, op, kd, nu, co, cl, ap, rd, si, bg, ct, ls, hd, hk, hc, vl) x) ∧ (∀ post : Int32 → SY → Prop, post act v1 → wpY_asked post (nI L, nI m, nI S, wy, nI q, ya, se, fl, vv, vt, ot, ra, br, oc, it, le, tk, cn, kd, nu, lf, la, pc, yb, yh, yk, ho, ap, rd, si, vs, os) x) ∧ rr_N pn wp se wy ra it le pe op kd nu co cl si tk cn L S m (rn_P S g b 0 (s + 1)) (s + 1) act u1 v1 := by
  have hT := dd_get h hs hk0 (by omega)
  obtain ⟨hT1, hT2⟩ : ct s = lf s ∧ (¬ ct s = 0 → ls s = la s) := hT
  have hkc : (kd s).toNatClampNeg = 7 := by rw [hk0]; exact nI_clamp (by omega)
  by_cases hc1 : ct s = 0
  · refine as_ask hkd hS hL hs hv hx h hk0 (by omega) (fun z => absurd z (by simp [rn_cl])) (fun post hp => ?_) (fun post hp => ?_)
    all_goals subst hx
    · exact ⟨hv, nm_r hk0 (br_f (by decide) (br_f (by decide) (br_f (by decide) (br_f (by decide) (br_f (by decide) (br_f (by decide) (br_f (by decide) (br_t rfl (⟨hv, br_t hc1 (xr_ask hp)⟩)))))))))⟩
    · exact ⟨hv, nm_r hk0 (br_f (by decide) (br_f (by decide) (br_f (by decide) (br_f (by decide) (br_f (by decide) (br_f (by decide) (br_f (by decide) (br_t rfl (⟨hv, br_t (by rw [← hT1]; exact hc1) hp⟩)))))))))⟩
  · rcases rn_apx (pn := pn) (wp := wp) (se := se) (fl := fl) (el := el) (rs := rs) (sn := sn) (it := it) (le := le) (pe := pe) (op := op) (kd := kd) (nu := nu) (co := co) (cl := cl) (ap := ap) (rd := rd) (si := si) (bg := bg) (ct := ct) (ls := ls) (hd := hd) (hk := hk) (hc := hc) (vl := vl) (wy := wy) (ya := ya) (vv := vv) (vt := vt) (ot := ot) (ra := ra) (br := br) (oc := oc) (tk := tk) (cn := cn) (la := la) (pc := pc) (yb := yb) (yh := yh) (yk := yk) (ho := ho) (vs := vs) (os := os) (sr := nI m) (sc := nI S) (en := 0) (pt := nI s) (sg := 0) (lf := upd lf s (lf s - 1)) hL h.1 hv hx hE (ls s) 0 with ⟨oe, p', fl', vv', vt', ot', br', ap', vl', vs', os', w1, w2, w3⟩ | ⟨hq, v, vt', ot', br', vl', vs', os', w2, w3⟩
    · refine ⟨3, (nI L, pn, wp, nI m, nI S, se, fl', nI p', oe, nI s, 0, el, rs, sn, it, le, pe, op, kd, nu, co, cl, ap', rd, si, bg, ct, ls, hd, hk, hc, vl'), (nI L, nI m, nI S, wy, nI p', ya, se, fl', vv', vt', ot', ra, br', oe, it, le, tk, cn, kd, nu, upd lf s (lf s - 1), la, pc, yb, yh, yk, ho, ap', rd, si, vs', os'), fun post hp => ?_, fun post hp => ?_, md_out w1⟩
      · subst hx
        exact ⟨hv, nm_r hk0 (br_f (by decide) (br_f (by decide) (br_f (by decide) (br_f (by decide) (br_f (by decide) (br_f (by decide) (br_f (by decide) (br_t rfl (⟨hv, br_f hc1 ⟨hv, w2 _ (br_t rfl hp)⟩⟩)))))))))⟩
      · subst hx
        rw [hT2 hc1] at w3
        exact ⟨hv, nm_r hk0 (br_f (by decide) (br_f (by decide) (br_f (by decide) (br_f (by decide) (br_f (by decide) (br_f (by decide) (br_f (by decide) (br_t rfl (⟨hv, br_f (by rw [← hT1]; exact hc1) ⟨hv, hv, nm_e ⟨hv, w3 _ (br_t rfl hp)⟩⟩⟩)))))))))⟩
    · refine ⟨1, (nI L, pn, wp, nI m, nI S, se, fl, nI (q + 1), 0, nI (s + 1), 1, v, v, sn, it, le, pe, op, kd, nu, co, cl, upd ap s (ap s + 1), rd, si, bg, upd ct s (ct s - 1), upd ls s v, hd, hk, hc, vl'), (nI L, nI m, nI S, wy, nI (q + 1), ya, se, fl, v, vt', ot', ra, br', oc, it, le, tk, cn, kd, nu, upd lf s (lf s - 1), upd la s v, pc, yb, yh, yk, ho, upd ap s (ap s + 1), rd, si, vs', os'), fun post hp => ?_, fun post hp => ?_, md_pay v hkd hS hs h (k := 7) (r1 := r s) ⟨fun t ht => by simp [pk_un ht], fun i hi => ⟨rfl, rfl⟩, fun i hi => ⟨rfl, rfl⟩⟩ (Or.inl rfl) (Or.inl (Nat.le_refl _)) (Nat.le_refl _) (by omega) hkc (fun P' hP => ?_)⟩
      · subst hx
        exact ⟨hv, nm_r hk0 (br_f (by decide) (br_f (by decide) (br_f (by decide) (br_f (by decide) (br_f (by decide) (br_f (by decide) (br_f (by decide) (br_t rfl (⟨hv, br_f hc1 ⟨hv, w2 _ (br_f (by decide) ⟨hv, hv, nm_e ⟨hv, nm_e (xr_give hp)⟩⟩)⟩⟩)))))))))⟩
      · subst hx
        rw [hT2 hc1] at w3
        exact ⟨hv, nm_r hk0 (br_f (by decide) (br_f (by decide) (br_f (by decide) (br_f (by decide) (br_f (by decide) (br_f (by decide) (br_f (by decide) (br_t rfl (⟨hv, br_f (by rw [← hT1]; exact hc1) ⟨hv, hv, nm_e ⟨hv, w3 _ (br_f (by decide) ⟨hv, nm_e hp⟩)⟩⟩⟩)))))))))⟩
      · show upd ct s (ct s - 1) s = upd lf s (lf s - 1) s ∧ (_ → upd ls s v s = upd la s v s)
        rw [pk_us, pk_us, pk_us, pk_us, hT1]
        exact ⟨rfl, fun _ => rfl⟩
theorem zl_eq {mm n : Nat} (h1 : nu s = nI mm) (h2 : mm < 3) (h3 : le mm = nI n) (h4 : n ≤ 24) : rn_zl le nu s = n := by
  unfold rn_zl
  rw [h1, nI_clamp (by omega), h3, nI_clamp (by omega)]
/-- THEN once its stage below has ended -/
theorem th_in (hkd : ∀ t, t < S → (kd t).toNatClampNeg ≤ 16) (hS : S ≤ 8) (hL : L ≤ 150) (hs : s < S) (hv : vp_in x 8) (hx : x.toNatClampNeg = s) (h : dd_D S L m le kd nu g e r b 0 (s + 1) q sn ya bg ct ls hd hk hc lf la pc yb yh yk ho) (hk0 : kd s = nI 9) (hb : b s = 1) {mm n : Nat} (hmm : mm < 3) (hn : n ≤ 24) (hnu : nu s = nI mm) (hle : le mm = nI n) :
    ∃ (act : Int32) (u1 : SX) (v1 : SY), (∀ post : SX → Prop, post u1 → wpX_stageAsked post (nI L, pn, wp, nI m, nI S, se, fl, nI q, 0, nI s, 0, el, rs, sn, it, le, pe, op, kd, nu, co, cl, ap, rd, si, bg, ct, ls, hd, hk, hc, vl) x) ∧ (∀ post : Int32 → SY → Prop, post act v1 → wpY_fetch post (nI L, nI m, nI S, wy, nI q, ya, se, fl, vv, vt, ot, ra, br, oc, it, le, tk, cn, kd, nu, lf, la, upd pc s (pc s + 1), yb, yh, yk, ho, ap, rd, si, vs, os) (nu s) (pc s)) ∧ rr_N pn wp se wy ra it le pe op kd nu co cl si tk cn L S m (rn_P S g b 0 (s + 1)) (s + 1) act u1 v1 := by
  have hT := dd_get h hs hk0 (by omega)
  have hkc : (kd s).toNatClampNeg = 9 := by rw [hk0]; exact nI_clamp (by omega)
  have hPb := dd_bound hS hL (by omega) h
  obtain ⟨hbb, j, hj, hyp, _, hxc⟩ := hT
  have hxc := hxc hb
  rw [zl_eq hnu hmm hle hn] at hxc
  have hxb : bg s = 1 := by rcases hbb.2 with ⟨z, _⟩ | ⟨_, z⟩; omega; exact z
  have hx1 : ¬ bg s = 0 := by rw [hxb]; decide
  have hmi : vp_in (nI mm) 3 := vp_in_nI hmm (by omega)
  have hmc : (nI mm).toNatClampNeg = mm := nI_clamp (by omega)
  have hlm : le (nI mm).toNatClampNeg = nI n := by rw [hmc]; exact hle
  have hy1 : pc s + 1 = nI (j + 1) := by rw [hyp, nI_1]
  by_cases hjn : j < n
  · have hmin : min j n = j := Nat.min_eq_left (by omega)
    rw [hmin] at hxc
    have hlt : ct s < nI n := by rw [hxc]; exact nI_lt hjn (by omega)
    by_cases hq : q < L
    · refine ⟨1, (nI L, pn, wp, nI m, nI S, se, fl, nI (q + 1), 0, nI (s + 1), 1, it (24 * mm + j), it (24 * mm + j), sn, it, le, pe, op, kd, nu, co, cl, ap, upd rd mm (rd mm + 1), si, bg, upd ct s (ct s + 1), ls, hd, hk, hc, vl), (nI L, nI m, nI S, wy, nI (q + 1), ya, se, fl, it (24 * mm + j), vt, ot, ra, br, oc, it, le, tk, cn, kd, nu, lf, la, upd pc s (pc s + 1), yb, yh, yk, ho, ap, upd rd mm (rd mm + 1), si, vs, os), fun post hp => ?_, fun post hp => ?_, md_pay _ hkd hS hs h (k := 9) (r1 := r s) ⟨fun t ht => by simp [pk_un ht], fun i hi => ⟨rfl, rfl⟩, fun i hi => ⟨rfl, rfl⟩⟩ (Or.inl rfl) (Or.inl (Nat.le_refl _)) (Nat.le_refl _) (by omega) hkc (fun P' hP => ?_)⟩
      · subst hx
        refine ⟨hv, nm_r hk0 (br_f (by decide) (br_f (by decide) (br_f (by decide) (br_f (by decide) (br_f (by decide) (br_f (by decide) (br_f (by decide) (br_f (by decide) (br_f (by decide) (br_t rfl (⟨hv, nm_r hnu ⟨hv, br_f hx1 ⟨hv, hmi, br_t (by rw [hlm]; exact hlt) ⟨hv, ?_⟩⟩⟩⟩)))))))))))⟩
        rw [hxc]
        refine xr_rd1 hL hq hmm (by omega) ?_
        exact br_f (by decide) ⟨hv, hv, nm_r (by rw [hxc]) (xr_give hp)⟩
      · rw [hnu, hyp]
        rw [hyp] at hp
        exact yr_ft1 hL hq hmm hn hle hjn hp
      · refine ⟨hbb, j + 1, by omega, by rw [pk_us]; exact hy1, fun z => absurd z (by omega), fun _ => ?_⟩
        rw [pk_us, hxc, nI_1, zl_eq hnu hmm hle hn, Nat.min_eq_left (by omega)]
    · have : L = q := by have := h.1; omega
      subst this
      refine ⟨3, (nI L, pn, wp, nI m, nI S, se, fl, nI L, 9000000000000000001, nI s, 0, el, rs, sn, it, le, pe, op, kd, nu, co, cl, ap, rd, si, bg, ct, ls, hd, hk, hc, vl), (nI L, nI m, nI S, wy, nI L, ya, se, fl, vv, vt, ot, ra, br, 9000000000000000001, it, le, tk, cn, kd, nu, lf, la, upd pc s (pc s + 1), yb, yh, yk, ho, ap, rd, si, vs, os), fun post hp => ?_, fun post hp => ?_, md_out (oe := 9000000000000000001) (by decide)⟩
      · subst hx
        refine ⟨hv, nm_r hk0 (br_f (by decide) (br_f (by decide) (br_f (by decide) (br_f (by decide) (br_f (by decide) (br_f (by decide) (br_f (by decide) (br_f (by decide) (br_f (by decide) (br_t rfl (⟨hv, nm_r hnu ⟨hv, br_f hx1 ⟨hv, hmi, br_t (by rw [hlm]; exact hlt) ⟨hv, xr_rd0 ?_⟩⟩⟩⟩)))))))))))⟩
        exact br_t rfl hp
      · rw [hnu, hyp]
        rw [hyp] at hp
        exact yr_ft0 hmm hn hle hjn hp
  · have hmin : min j n = n := Nat.min_eq_right (by omega)
    rw [hmin] at hxc
    have hlt : ¬ ct s < nI n := by rw [hxc]; exact Int32.lt_irrefl
    refine ⟨0, (nI L, pn, wp, nI m, nI S, se, fl, nI q, 0, nI (s + 1), 2, el, rs, sn, it, le, pe, op, kd, nu, co, cl, ap, rd, si, bg, ct, ls, hd, hk, hc, vl), (nI L, nI m, nI S, wy, nI q, ya, se, fl, vv, vt, ot, ra, br, oc, it, le, tk, cn, kd, nu, lf, la, upd pc s (pc s + 1), yb, yh, yk, ho, ap, rd, si, vs, os), fun post hp => ?_, fun post hp => ?_, md_end hkd hS hs h (k := 9) ⟨fun t ht => by simp [pk_un ht], fun i hi => ⟨rfl, rfl⟩, fun i hi => ⟨rfl, rfl⟩⟩ (Or.inl rfl) (Nat.le_refl _) h.1 hkc (fun P' hP => ?_)⟩
    · subst hx
      exact ⟨hv, nm_r hk0 (br_f (by decide) (br_f (by decide) (br_f (by decide) (br_f (by decide) (br_f (by decide) (br_f (by decide) (br_f (by decide) (br_f (by decide) (br_f (by decide) (br_t rfl (⟨hv, nm_r hnu ⟨hv, br_f hx1 ⟨hv, hmi, br_f (by rw [hlm]; exact hlt) (xr_end hp)⟩⟩⟩)))))))))))⟩
    · rw [hnu, hyp]
      rw [hyp] at hp
      exact yr_ftE hmm hn hle (by omega) (by omega) hp
    · refine ⟨hbb, j + 1, by omega, by rw [pk_us]; exact hy1, fun z => absurd z (by omega), fun _ => ?_⟩
      rw [hxc, zl_eq hnu hmm hle hn, Nat.min_eq_right (by omega)]
theorem as_9 (hkd : ∀ t, t < S → (kd t).toNatClampNeg ≤ 16) (hS : S ≤ 8) (hL : L ≤ 150) (hs : s < S) (hv : vp_in x 8) (hx : x.toNatClampNeg = s) (h : dd_D S L m le kd nu g e r b 0 (s + 1) q sn ya bg ct ls hd hk hc lf la pc yb yh yk ho) (hk0 : kd s = nI 9) {mm n : Nat} (hmm : mm < 3) (hn : n ≤ 24) (hnu : nu s = nI mm) (hle : le mm = nI n) : ∃ (act : Int32) (u1 : SX) (v1 : SY), (∀ post : SX → Prop, post u1 → wpX_stageAsked post (nI L, pn, wp, nI m, nI S, se, fl, nI q, 0, nI s, 0, el, rs, sn, it, le, pe, op, kd, nu, co, cl, ap, rd, si, bg, ct, ls, hd, hk, hc, vl) x) ∧ (∀ post : Int32 → SY → Prop, post act v1 → wpY_asked post (nI L, nI m, nI S, wy, nI q, ya, se, fl, vv, vt, ot, ra, br, oc, it, le, tk, cn, kd, nu, lf, la, pc, yb, yh, yk, ho, ap, rd, si, vs, os) x) ∧ rr_N pn wp se wy ra it le pe op kd nu co cl si tk cn L S m (rn_P S g b 0 (s + 1)) (s + 1) act u1 v1 := by
  have hT := dd_get h hs hk0 (by omega)
  obtain ⟨hbb, _⟩ := hT
  rcases hbb.2 with ⟨b0, x0⟩ | ⟨b1, x1⟩
  · refine as_ask hkd hS hL hs hv hx h hk0 (by omega) (fun z => b0) (fun post hp => ?_) (fun post hp => ?_)
    all_goals subst hx
    · exact ⟨hv, nm_r hk0 (br_f (by decide) (br_f (by decide) (br_f (by decide) (br_f (by decide) (br_f (by decide) (br_f (by decide) (br_f (by decide) (br_f (by decide) (br_f (by decide) (br_t rfl (⟨hv, nm_e ⟨hv, br_t x0 (xr_ask hp)⟩⟩)))))))))))⟩
    · exact ⟨hv, nm_r hk0 (br_f (by decide) (br_f (by decide) (br_f (by decide) (br_f (by decide) (br_f (by decide) (br_f (by decide) (br_f (by decide) (br_f (by decide) (br_f (by decide) (br_t rfl (⟨hv, br_t (by rw [← hbb.1]; exact x0) hp⟩)))))))))))⟩
  · obtain ⟨act, u1, v1, w1, w2, w3⟩ := th_in (pn := pn) (wp := wp) (se := se) (fl := fl) (el := el) (rs := rs) (sn := sn) (it := it) (le := le) (pe := pe) (op := op) (kd := kd) (nu := nu) (co := co) (cl := cl) (ap := ap) (rd := rd) (si := si) (bg := bg) (ct := ct) (ls := ls) (hd := hd) (hk := hk) (hc := hc) (vl := vl) (wy := wy) (ya := ya) (vv := vv) (vt := vt) (ot := ot) (ra := ra) (br := br) (oc := oc) (tk := tk) (cn := cn) (lf := lf) (la := la) (pc := pc) (yb := yb) (yh := yh) (yk := yk) (ho := ho) (vs := vs) (os := os) hkd hS hL hs hv hx h hk0 b1 hmm hn hnu hle
    refine ⟨act, u1, v1, w1, fun post hp => ?_, w3⟩
    subst hx
    exact ⟨hv, nm_r hk0 (br_f (by decide) (br_f (by decide) (br_f (by decide) (br_f (by decide) (br_f (by decide) (br_f (by decide) (br_f (by decide) (br_f (by decide) (br_f (by decide) (br_t rfl (⟨hv, br_f (by rw [← hbb.1, x1]; decide) ⟨hv, hv, hv, nm_e (w2 _ (sy_eta hp))⟩⟩)))))))))))⟩
end
end
section
theorem mt_3 (v l : Int32) : ((v ^^^ l) &&& 3 = 0) ↔ (v &&& 3 = l &&& 3) := by
  constructor
  · intro h
    refine b_ext (fun i hi => ?_)
    have := congrArg (fun z => bt z i) h
    simp only [b_and, b_xor, b_0] at this ⊢
    revert this
    cases bt v i <;> cases bt l i <;> cases bt 3 i <;> decide
  · intro h
    refine b_ext (fun i hi => ?_)
    have := congrArg (fun z => bt z i) h
    simp only [b_and, b_xor, b_0] at this ⊢
    revert this
    cases bt v i <;> cases bt l i <;> cases bt 3 i <;> decide
section
variable {lm pn wp sr sc se fl sp pt sg el rs sn wy ya vv vt ot ra br : Int32} {en oc : Int64} {it le pe op kd nu co cl ap rd si bg ct ls hd hk hc vl tk cn lf la pc yb yh yk ho vs os : Nat → Int32}
variable {bg' ct' ls' hd' hk' hc' lf' la' pc' yb' yh' yk' ho' : Nat → Int32} {S L m q s sgn k : Nat} {g e r b : Nat → Nat} {x y : Int32}
theorem mt_loop (hkd : ∀ t, t < S → (kd t).toNatClampNeg ≤ 16) (hS : S ≤ 8) (hL : L ≤ 150) (hs : s < S) (hv : vp_in x 8) (hx : x.toNatClampNeg = s) (h : dd_D S L m le kd nu g e r b 0 (s + 1) q sn ya bg ct ls hd hk hc lf la pc yb yh yk ho) (hk0 : kd s = nI 11) (hb1 : ¬ bg s = 0) {mm n : Nat} (hmm : mm < 3) (hn : n ≤ 24) (hnu : nu s = nI mm) (hle : le mm = nI n) (hll : ls s = la s) (hbb : bg s = yb s) {i0 : Nat} (hi0 : i0 ≤ n) (hxc : ct s = nI i0) :
    ∀ (d i q1 : Nat) (rs vv : Int32) (rd pc1 : Nat → Int32), i + d = n → q ≤ q1 → q1 ≤ L → pc1 s = nI i → (∀ t, t ≠ s → pc1 t = pc t) →
    ∃ (act : Int32) (u1 : SX) (v1 : SY), (∀ (post : SX → Prop) (nf : Nat), d < nf → post u1 → wX_matchAsked_43 post x (nI mm) (ls s) (nI n) nf (nI i) (nI L) pn wp (nI m) (nI S) se fl (nI q1) 0 (nI s) 0 el rs sn it le pe op kd nu co cl ap rd si bg ct ls hd hk hc vl) ∧ (∀ (post : Int32 → SY → Prop) (nf : Nat), d < nf → post act v1 → wY_match_7 post x (nI mm) nf (nI L) (nI m) (nI S) wy (nI q1) ya se fl vv vt ot ra br oc it le tk cn kd nu lf la pc1 yb yh yk ho ap rd si vs os) ∧ rr_N pn wp se wy ra it le pe op kd nu co cl si tk cn L S m (rn_P S g b 0 (s + 1)) (s + 1) act u1 v1 := by
  have hkc : (kd s).toNatClampNeg = 11 := by rw [hk0]; exact nI_clamp (by omega)
  intro d
  induction d with
  | zero =>
    intro i q1 rs vv rd pc1 hi hq1 hq2 hpi hpt
    have : i = n := by omega
    subst this
    refine ⟨2, (nI L, pn, wp, nI m, nI S, se, fl, nI q1, 0, rn_aI s, 0, el, rs, sn, it, le, pe, op, kd, nu, co, cl, ap, rd, si, upd bg s (vp_nar .boolean 0), ct, ls, hd, hk, hc, vl), (nI L, nI m, nI S, wy, nI q1, ya, se, fl, vv, vt, ot, ra, br, oc, it, le, tk, cn, kd, nu, lf, la, upd pc1 s (nI (i + 1)), upd yb s (vp_nar .boolean 0), yh, yk, ho, ap, rd, si, vs, os), fun post nf hf hp => ?_, fun post nf hf hp => ?_, md_ask hkd hS hs h (k := 11) (r1 := r s) ⟨fun t ht => by simp [pk_un ht, hpt t ht], fun i hi => ⟨rfl, rfl⟩, fun i hi => ⟨rfl, rfl⟩⟩ (Or.inl rfl) (Or.inl (Nat.le_refl _)) (fun z => absurd z (by simp [rn_cl])) hq1 hq2 hkc (fun P' hP => ?_)⟩
    · obtain ⟨f, rfl⟩ : ∃ f, nf = f + 1 := ⟨nf - 1, by omega⟩
      subst hx
      exact br_t (Int32.le_refl _) ⟨hv, nm_e (xr_ask hp)⟩
    · obtain ⟨f, rfl⟩ : ∃ f, nf = f + 1 := ⟨nf - 1, by omega⟩
      subst hx
      refine ⟨hv, hv, nm_r (e' := upd pc1 x.toNatClampNeg (nI (i + 1))) (by rw [hpi, nI_1]) ?_⟩
      rw [hpi]
      refine yr_ftE hmm hn hle (by omega) (by omega) ?_
      exact br_f (by decide) (br_t rfl ⟨hv, nm_e hp⟩)
    · refine ⟨by rw [pk_us, pk_us], i0, by rw [zl_eq hnu hmm hle hn]; exact hi0, hxc, fun z => absurd ?_ z⟩
      rw [pk_us, vn_0]
  | succ d IH =>
    intro i q1 rs vv rd pc1 hi hq1 hq2 hpi hpt
    have hnle : ¬ nI n ≤ nI i := nI_ge (by omega) (by omega)
    by_cases hq : q1 < L
    · obtain ⟨w, hw⟩ : ∃ w, w = it (24 * mm + i) := ⟨_, rfl⟩
      by_cases hc3 : (w ^^^ ls s) &&& 3 = 0
      · refine ⟨1, (nI L, pn, wp, nI m, nI S, se, fl, nI (q1 + 1), 0, nI (s + 1), 1, ls s + w, w, sn, it, le, pe, op, kd, nu, co, cl, ap, upd rd mm (rd mm + 1), si, bg, upd ct s (nI (i + 1)), ls, hd, hk, hc, vl), (nI L, nI m, nI S, wy, nI (q1 + 1), ya, se, fl, ls s + w, vt, ot, ra, br, oc, it, le, tk, cn, kd, nu, lf, la, upd pc1 s (nI (i + 1)), yb, yh, yk, ho, ap, upd rd mm (rd mm + 1), si, vs, os), fun post nf hf hp => ?_, fun post nf hf hp => ?_, md_pay _ hkd hS hs h (k := 11) (r1 := r s) ⟨fun t ht => by simp [pk_un ht, hpt t ht], fun i hi => ⟨rfl, rfl⟩, fun i hi => ⟨rfl, rfl⟩⟩ (Or.inl rfl) (Or.inl (Nat.le_refl _)) (by omega) (by omega) hkc (fun P' hP => ?_)⟩
        · obtain ⟨f, rfl⟩ : ∃ f, nf = f + 1 := ⟨nf - 1, by omega⟩
          subst hx
          refine br_f hnle (xr_rd1 hL hq hmm (by omega) ?_)
          rw [← hw]
          exact br_f (by decide) (br_t hc3 ⟨hv, nm_r (by rw [nI_1]) (xr_give hp)⟩)
        · obtain ⟨f, rfl⟩ : ∃ f, nf = f + 1 := ⟨nf - 1, by omega⟩
          subst hx
          refine ⟨hv, hv, nm_r (e' := upd pc1 x.toNatClampNeg (nI (i + 1))) (by rw [hpi, nI_1]) ?_⟩
          rw [hpi]
          refine yr_ft1 hL hq hmm hn hle (by omega) ?_
          rw [← hw]
          refine br_f (by decide) (br_f (by decide) ⟨hv, br_t ?_ ⟨hv, nm_r ?_ hp⟩⟩)
          · rw [← hll]; exact (mt_3 _ _).mp hc3
          · rw [← hll, Int32.add_comm]
        · refine ⟨hbb, i + 1, by rw [zl_eq hnu hmm hle hn]; omega, pk_us, fun _ => ⟨hll, pk_us⟩⟩
      · obtain ⟨act, u1, v1, w1, w2, w3⟩ := IH (i + 1) (q1 + 1) w w (upd rd mm (rd mm + 1)) (upd pc1 s (nI (i + 1))) (by omega) (by omega) (by omega) pk_us (fun t ht => by rw [pk_un ht]; exact hpt t ht)
        refine ⟨act, u1, v1, fun post nf hf hp => ?_, fun post nf hf hp => ?_, w3⟩
        · obtain ⟨f, rfl⟩ : ∃ f, nf = f + 1 := ⟨nf - 1, by omega⟩
          refine br_f hnle (xr_rd1 hL hq hmm (by omega) ?_)
          rw [← hw]
          exact br_f (by decide) (br_f hc3 (nm_r (nI_1 _) (w1 post f (by omega) hp)))
        · obtain ⟨f, rfl⟩ : ∃ f, nf = f + 1 := ⟨nf - 1, by omega⟩
          subst hx
          refine ⟨hv, hv, nm_r (e' := upd pc1 x.toNatClampNeg (nI (i + 1))) (by rw [hpi, nI_1]) ?_⟩
          rw [hpi]
          refine yr_ft1 hL hq hmm hn hle (by omega) ?_
          rw [← hw]
          refine br_f (by decide) (br_f (by decide) ⟨hv, br_f ?_ (w2 post f (by omega) hp)⟩)
          rw [← hll]; exact fun z => hc3 ((mt_3 _ _).mpr z)
    · have : L = q1 := by omega
      subst this
      refine ⟨3, (nI L, pn, wp, nI m, nI S, se, fl, nI L, 9000000000000000001, nI s, 0, el, rs, sn, it, le, pe, op, kd, nu, co, cl, ap, rd, si, bg, ct, ls, hd, hk, hc, vl), (nI L, nI m, nI S, wy, nI L, ya, se, fl, vv, vt, ot, ra, br, 9000000000000000001, it, le, tk, cn, kd, nu, lf, la, upd pc1 s (nI (i + 1)), yb, yh, yk, ho, ap, rd, si, vs, os), fun post nf hf hp => ?_, fun post nf hf hp => ?_, md_out (oe := 9000000000000000001) (by decide)⟩
      · obtain ⟨f, rfl⟩ : ∃ f, nf = f + 1 := ⟨nf - 1, by omega⟩
        refine br_f hnle (xr_rd0 ?_)
        exact br_t rfl hp
      · obtain ⟨f, rfl⟩ : ∃ f, nf = f + 1 := ⟨nf - 1, by omega⟩
        subst hx
        refine ⟨hv, hv, nm_r (e' := upd pc1 x.toNatClampNeg (nI (i + 1))) (by rw [hpi, nI_1]) ?_⟩
        rw [hpi]
        refine yr_ft0 hmm hn hle (by omega) ?_
        exact br_t rfl hp
theorem mt_in (hkd : ∀ t, t < S → (kd t).toNatClampNeg ≤ 16) (hS : S ≤ 8) (hL : L ≤ 150) (hs : s < S) (hv : vp_in x 8) (hx : x.toNatClampNeg = s) (h : dd_D S L m le kd nu g e r b 0 (s + 1) q sn ya bg ct ls hd hk hc lf la pc yb yh yk ho) (hk0 : kd s = nI 11) (hb1 : ¬ bg s = 0) {mm n : Nat} (hmm : mm < 3) (hn : n ≤ 24) (hnu : nu s = nI mm) (hle : le mm = nI n) :
    ∃ (act : Int32) (u1 : SX) (v1 : SY), (∀ post : SX → Prop, post u1 → wpX_stageAsked post (nI L, pn, wp, nI m, nI S, se, fl, nI q, 0, nI s, 0, el, rs, sn, it, le, pe, op, kd, nu, co, cl, ap, rd, si, bg, ct, ls, hd, hk, hc, vl) x) ∧ (∀ post : Int32 → SY → Prop, post act v1 → wpY_match post (nI L, nI m, nI S, wy, nI q, ya, se, fl, vv, vt, ot, ra, br, oc, it, le, tk, cn, kd, nu, lf, la, pc, yb, yh, yk, ho, ap, rd, si, vs, os) x) ∧ rr_N pn wp se wy ra it le pe op kd nu co cl si tk cn L S m (rn_P S g b 0 (s + 1)) (s + 1) act u1 v1 := by
  have hT := dd_get h hs hk0 (by omega)
  obtain ⟨hbb, i, hi, hxc, hrest⟩ := hT
  obtain ⟨hll, hyp⟩ := hrest hb1
  rw [zl_eq hnu hmm hle hn] at hi
  obtain ⟨act, u1, v1, w1, w2, w3⟩ := mt_loop (pn := pn) (wp := wp) (se := se) (fl := fl) (el := el) (sn := sn) (it := it) (le := le) (pe := pe) (op := op) (kd := kd) (nu := nu) (co := co) (cl := cl) (ap := ap) (si := si) (bg := bg) (ct := ct) (ls := ls) (hd := hd) (hk := hk) (hc := hc) (vl := vl) (wy := wy) (ya := ya) (vt := vt) (ot := ot) (ra := ra) (br := br) (oc := oc) (tk := tk) (cn := cn) (lf := lf) (la := la) (pc := pc) (yb := yb) (yh := yh) (yk := yk) (ho := ho) (vs := vs) (os := os) hkd hS hL hs hv hx h hk0 hb1 hmm hn hnu hle hll hbb hi hxc (n - i) i q rs vv rd pc (by omega) (Nat.le_refl _) h.1 hyp (fun _ _ => rfl)
  refine ⟨act, u1, v1, fun post hp => ?_, fun post hp => ?_, w3⟩
  · subst hx
    refine ⟨hv, nm_r hk0 (br_f (by decide) (br_f (by decide) (br_f (by decide) (br_f (by decide) (br_f (by decide) (br_f (by decide) (br_f (by decide) (br_f (by decide) (br_f (by decide) (br_f (by decide) (br_f (by decide) (br_t rfl (⟨hv, nm_r hnu ⟨hv, nm_e ⟨hv, br_f hb1 ⟨vp_in_nI hmm (by omega), nm_r (e' := nI n) (by rw [nI_clamp (by omega)]; exact hle) ⟨hv, nm_r hxc ⟨_, w1 _ _ (Nat.lt_succ_self _) (sx_eta hp)⟩⟩⟩⟩⟩⟩)))))))))))))⟩
  · subst hx
    exact ⟨hv, nm_r hnu ⟨_, w2 _ _ (Nat.lt_succ_self _) hp⟩⟩
theorem as_11 (hkd : ∀ t, t < S → (kd t).toNatClampNeg ≤ 16) (hS : S ≤ 8) (hL : L ≤ 150) (hs : s < S) (hv : vp_in x 8) (hx : x.toNatClampNeg = s) (h : dd_D S L m le kd nu g e r b 0 (s + 1) q sn ya bg ct ls hd hk hc lf la pc yb yh yk ho) (hk0 : kd s = nI 11) {mm n : Nat} (hmm : mm < 3) (hn : n ≤ 24) (hnu : nu s = nI mm) (hle : le mm = nI n) : ∃ (act : Int32) (u1 : SX) (v1 : SY), (∀ post : SX → Prop, post u1 → wpX_stageAsked post (nI L, pn, wp, nI m, nI S, se, fl, nI q, 0, nI s, 0, el, rs, sn, it, le, pe, op, kd, nu, co, cl, ap, rd, si, bg, ct, ls, hd, hk, hc, vl) x) ∧ (∀ post : Int32 → SY → Prop, post act v1 → wpY_asked post (nI L, nI m, nI S, wy, nI q, ya, se, fl, vv, vt, ot, ra, br, oc, it, le, tk, cn, kd, nu, lf, la, pc, yb, yh, yk, ho, ap, rd, si, vs, os) x) ∧ rr_N pn wp se wy ra it le pe op kd nu co cl si tk cn L S m (rn_P S g b 0 (s + 1)) (s + 1) act u1 v1 := by
  have hT := dd_get h hs hk0 (by omega)
  have hkc : (kd s).toNatClampNeg = 11 := by rw [hk0]; exact nI_clamp (by omega)
  obtain ⟨hbb, i, hi, hxc, hrest⟩ := hT
  by_cases hb1 : bg s = 0
  · refine ⟨2, (nI L, pn, wp, nI m, nI S, se, fl, nI q, 0, rn_aI s, 0, el, rs, sn, it, le, pe, op, kd, nu, co, cl, ap, rd, si, upd bg s (vp_nar .boolean 0), ct, ls, hd, hk, hc, vl), (nI L, nI m, nI S, wy, nI q, ya, se, fl, vv, vt, ot, ra, br, oc, it, le, tk, cn, kd, nu, lf, la, pc, yb, yh, yk, ho, ap, rd, si, vs, os), fun post hp => ?_, fun post hp => ?_, md_ask hkd hS hs h (k := 11) (r1 := r s) ⟨fun t ht => by simp [pk_un ht], fun i hi => ⟨rfl, rfl⟩, fun i hi => ⟨rfl, rfl⟩⟩ (Or.inl rfl) (Or.inl (Nat.le_refl _)) (fun z => absurd z (by simp [rn_cl])) (Nat.le_refl _) h.1 hkc (fun P' hP => ?_)⟩
    · subst hx
      exact ⟨hv, nm_r hk0 (br_f (by decide) (br_f (by decide) (br_f (by decide) (br_f (by decide) (br_f (by decide) (br_f (by decide) (br_f (by decide) (br_f (by decide) (br_f (by decide) (br_f (by decide) (br_f (by decide) (br_t rfl (⟨hv, nm_e ⟨hv, nm_e ⟨hv, br_t hb1 ⟨hv, nm_e ⟨1, br_t (by rw [hxc]; exact nI_pos' (by rw [zl_eq hnu hmm hle hn] at hi; omega)) ⟨hv, nm_e (xr_ask hp)⟩⟩⟩⟩⟩⟩)))))))))))))⟩
    · subst hx
      exact ⟨hv, nm_r hk0 (br_f (by decide) (br_f (by decide) (br_f (by decide) (br_f (by decide) (br_f (by decide) (br_f (by decide) (br_f (by decide) (br_f (by decide) (br_f (by decide) (br_f (by decide) (br_f (by decide) (br_t rfl (⟨hv, br_t (by rw [← hbb]; exact hb1) hp⟩)))))))))))))⟩
    · refine ⟨by rw [pk_us, vn_0, ← hbb]; exact hb1.symm, i, hi, hxc, fun z => absurd ?_ z⟩
      rw [pk_us, vn_0]
  · obtain ⟨act, u1, v1, w1, w2, w3⟩ := mt_in (pn := pn) (wp := wp) (se := se) (fl := fl) (el := el) (rs := rs) (sn := sn) (it := it) (le := le) (pe := pe) (op := op) (kd := kd) (nu := nu) (co := co) (cl := cl) (ap := ap) (rd := rd) (si := si) (bg := bg) (ct := ct) (ls := ls) (hd := hd) (hk := hk) (hc := hc) (vl := vl) (wy := wy) (ya := ya) (vv := vv) (vt := vt) (ot := ot) (ra := ra) (br := br) (oc := oc) (tk := tk) (cn := cn) (lf := lf) (la := la) (pc := pc) (yb := yb) (yh := yh) (yk := yk) (ho := ho) (vs := vs) (os := os) hkd hS hL hs hv hx h hk0 hb1 hmm hn hnu hle
    refine ⟨act, u1, v1, w1, fun post hp => ?_, w3⟩
    subst hx
    exact ⟨hv, nm_r hk0 (br_f (by decide) (br_f (by decide) (br_f (by decide) (br_f (by decide) (br_f (by decide) (br_f (by decide) (br_f (by decide) (br_f (by decide) (br_f (by decide) (br_f (by decide) (br_f (by decide) (br_t rfl (⟨hv, br_f (by rw [← hbb]; exact hb1) (w2 _ (sy_eta hp))⟩)))))))))))))⟩
end
end
section
theorem upd_self (f : Nat → Int32) (k : Nat) : upd f k (f k) = f := by
  funext j
  unfold upd
  split
  · rename_i h; rw [h]
  · rfl
theorem vx_n {x : Int32} (hv : vp_in x 8) : x = nI x.toNatClampNeg ∧ x.toNatClampNeg < 8 := by
  obtain ⟨j, hj, rfl⟩ := vp_in_of hv (by omega)
  rw [nI_clamp (by omega)]
  exact ⟨rfl, hj⟩
theorem vx_150 {x : Int32} (hv : vp_in x 8) (i : Nat) : x * 150 + nI i = nI (150 * x.toNatClampNeg + i) := by
  have := (vx_n hv).1
  generalize x.toNatClampNeg = s at *
  subst this
  rw [show (150 : Int32) = nI 150 from rfl, pk_mul, nI_add]; exact congrArg nI (by omega)
theorem vx_160 {x : Int32} (hv : vp_in x 8) : 160 * x = nI (160 * x.toNatClampNeg) := by
  have := (vx_n hv).1
  generalize x.toNatClampNeg = s at *
  subst this
  rw [show (160 : Int32) = nI 160 from rfl, pk_mul]
section
variable {lm pn wp sr sc se fl sp pt sg el rs sn wy ya vv vt ot ra br : Int32} {en oc : Int64} {it le pe op kd nu co cl ap rd si bg ct ls hd hk hc vl tk cn lf la pc yb yh yk ho vs os : Nat → Int32}
variable {bg' ct' ls' hd' hk' hc' lf' la' pc' yb' yh' yk' ho' : Nat → Int32} {S L m q s sgn k : Nat} {g e r b : Nat → Nat} {x y : Int32}
/-- the component gives what it holds at place z -/
theorem xg_75 (hv : vp_in x 8) {z : Nat} (hz : z < 150) {post : SX → Prop} (hp : post (lm, pn, wp, sr, sc, se, fl, sp, en, nI (s + 1), 1, hd (150 * x.toNatClampNeg + z), rs, sn, it, le, pe, op, kd, nu, co, cl, ap, rd, si, bg, upd ct x.toNatClampNeg (ct x.toNatClampNeg + 1), ls, hd, hk, hc, vl)) : wX_gathererAsked_75 post x (nI z) lm pn wp sr sc se fl sp en (nI s) sg el rs sn it le pe op kd nu co cl ap rd si bg ct ls hd hk hc vl := by
  have h8 := (vx_n hv).2
  refine ⟨hv, hv, nm_e ⟨?_, ?_⟩⟩
  · rw [vx_150 hv]; exact vp_in_nI (by omega) (by omega)
  · rw [vx_150 hv, nI_clamp (by omega)]; exact xr_give hp
theorem rv_in (hkd : ∀ t, t < S → (kd t).toNatClampNeg ≤ 16) (hS : S ≤ 8) (hL : L ≤ 150) (hs : s < S) (hv : vp_in x 8) (hx : x.toNatClampNeg = s) (h : dd_D S L m le kd nu g e r b 0 (s + 1) q sn ya bg ct ls hd hk hc lf la pc yb yh yk ho) (hk0 : kd s = nI 15) (hb : b s = 1) :
    ∃ (act : Int32) (u1 : SX) (v1 : SY), (∀ post : SX → Prop, post u1 → wpX_stageAsked post (nI L, pn, wp, nI m, nI S, se, fl, nI q, 0, nI s, 0, el, rs, sn, it, le, pe, op, kd, nu, co, cl, ap, rd, si, bg, ct, ls, hd, hk, hc, vl) x) ∧ (∀ post : Int32 → SY → Prop, post act v1 → wpY_release post (nI L, nI m, nI S, wy, nI q, ya, se, fl, vv, vt, ot, ra, br, oc, it, le, tk, cn, kd, nu, lf, la, pc, yb, yh, yk, ho, ap, rd, si, vs, os) x) ∧ rr_N pn wp se wy ra it le pe op kd nu co cl si tk cn L S m (rn_P S g b 0 (s + 1)) (s + 1) act u1 v1 := by
  have hT := dd_get h hs hk0 (by omega)
  have hkc : (kd s).toNatClampNeg = 15 := by rw [hk0]; exact nI_clamp (by omega)
  obtain ⟨hbb, j, hj, hhc, hho, _, hb1, heq⟩ := hT
  obtain ⟨hxc, hyp⟩ := hb1 hb
  have hxb : bg s = 1 := by rcases hbb.2 with ⟨z, _⟩ | ⟨_, z⟩; omega; exact z
  have hx1 : ¬ bg s = 0 := by rw [hxb]; decide
  have hs8 : s < 8 := by omega
  cases hr : r s with
  | zero =>
    rw [hr, Nat.zero_add] at hhc hho
    rw [hr] at hyp
    refine ⟨0, (nI L, pn, wp, nI m, nI S, se, fl, nI q, 0, nI (s + 1), 2, el, rs, sn, it, le, pe, op, kd, nu, co, cl, ap, rd, si, bg, ct, ls, hd, hk, hc, vl), (nI L, nI m, nI S, wy, nI q, ya, se, fl, vv, vt, ot, ra, br, oc, it, le, tk, cn, kd, nu, lf, la, pc, yb, yh, yk, ho, ap, rd, si, vs, os), fun post hp => ?_, fun post hp => ?_, md_end hkd hS hs h (k := 15) fr_id (Or.inl rfl) (Nat.le_refl _) h.1 hkc (fun P' hP => dd_mono (by omega) (Nat.le_of_lt hP) (dd_get h hs hk0 (by omega)))⟩
    · subst hx
      exact ⟨hv, nm_r hk0 (br_f (by decide) (br_f (by decide) (br_f (by decide) (br_f (by decide) (br_f (by decide) (br_f (by decide) (br_f (by decide) (br_f (by decide) (br_f (by decide) (br_f (by decide) (br_f (by decide) (br_f (by decide) (br_f (by decide) (br_f (by decide) (br_f (by decide) (br_t rfl (⟨hv, nm_r hxc ⟨hv, br_f hx1 ⟨hv, br_f (by rw [hhc]; exact Int32.lt_irrefl) (xr_end hp)⟩⟩⟩)))))))))))))))))⟩
    · subst hx
      exact nm_e ⟨hv, br_t hk0 ⟨hv, br_f (by rw [hyp]; decide) hp⟩⟩
  | succ r0 =>
    rw [hr] at hj hhc hho hyp heq
    have hlt : nI j < nI (r0 + 1 + j) := nI_lt (by omega) (by omega)
    have hval : hd (150 * s + r0) = yh (160 * s + r0) := by
      have := heq r0 (by omega)
      rw [rn_sl_at (by omega), rn_sl_at (by omega)] at this
      exact this
    have hz : nI (r0 + 1 + j) - 1 - nI j = nI r0 := by
      rw [show r0 + 1 + j = (r0 + j) + 1 from by omega, nI_pred, pk_sub (by omega)]; exact congrArg nI (by omega)
    refine ⟨1, (nI L, pn, wp, nI m, nI S, se, fl, nI q, 0, nI (s + 1), 1, hd (150 * s + r0), rs, sn, it, le, pe, op, kd, nu, co, cl, ap, rd, si, bg, upd ct s (ct s + 1), ls, hd, hk, hc, vl), (nI L, nI m, nI S, wy, nI q, ya, se, fl, hd (150 * s + r0), vt, ot, ra, br, oc, it, le, tk, cn, kd, nu, lf, la, upd pc s (rn_aI r0), yb, yh, yk, ho, ap, rd, si, vs, os), fun post hp => ?_, fun post hp => ?_, md_give _ hkd hS hs h (k := 15) (r1 := r0) ⟨fun t ht => by simp [pk_un ht], fun i hi => ⟨rfl, rfl⟩, fun i hi => ⟨rfl, rfl⟩⟩ (Or.inl rfl) (Or.inl (by omega)) (Nat.le_refl _) h.1 hkc (fun P' hP => ?_)⟩
    · subst hx
      refine ⟨hv, nm_r hk0 (br_f (by decide) (br_f (by decide) (br_f (by decide) (br_f (by decide) (br_f (by decide) (br_f (by decide) (br_f (by decide) (br_f (by decide) (br_f (by decide) (br_f (by decide) (br_f (by decide) (br_f (by decide) (br_f (by decide) (br_f (by decide) (br_f (by decide) (br_t rfl (⟨hv, nm_r hxc ⟨hv, br_f hx1 ⟨hv, br_t (by rw [hhc]; exact hlt) ⟨hv, br_t hk0 (br_f (by decide) ⟨hv, ?_⟩)⟩⟩⟩⟩)))))))))))))))))⟩
      rw [hhc, hz]
      exact xg_75 hv (by omega) hp
    · subst hx
      have e1 : nI (160 * x.toNatClampNeg) + pc x.toNatClampNeg = nI (160 * x.toNatClampNeg + r0) := by rw [hyp]; exact nI_add _ _
      refine nm_r (vx_160 hv) ⟨hv, br_t hk0 ⟨hv, br_t (by rw [hyp]; exact nI_pos' (by omega)) ⟨hv, hv, nm_r (e' := upd pc x.toNatClampNeg (rn_aI r0)) (by rw [hyp]; exact congrArg _ (rn_pred r0)) ⟨?_, nm_r (e' := hd (150 * x.toNatClampNeg + r0)) ?_ hp⟩⟩⟩⟩
      · rw [e1]; exact vp_in_nI (by omega) (by omega)
      · rw [e1, nI_clamp (by omega)]; exact hval.symm
    · refine ⟨hbb, j + 1, by omega, ?_, ?_, fun z => absurd z (by omega), fun _ => ⟨by rw [pk_us, hxc, nI_1], pk_us⟩, fun i hi => heq i (by omega)⟩
      · rw [hhc]; exact congrArg nI (by omega)
      · rw [hho]; exact congrArg nI (by omega)
theorem gr_in (hkd : ∀ t, t < S → (kd t).toNatClampNeg ≤ 16) (hS : S ≤ 8) (hL : L ≤ 150) (hs : s < S) (hv : vp_in x 8) (hx : x.toNatClampNeg = s) (h : dd_D S L m le kd nu g e r b 0 (s + 1) q sn ya bg ct ls hd hk hc lf la pc yb yh yk ho) (hk0 : kd s = nI 16) (hb : b s = 1) :
    ∃ (act : Int32) (u1 : SX) (v1 : SY), (∀ post : SX → Prop, post u1 → wpX_stageAsked post (nI L, pn, wp, nI m, nI S, se, fl, nI q, 0, nI s, 0, el, rs, sn, it, le, pe, op, kd, nu, co, cl, ap, rd, si, bg, ct, ls, hd, hk, hc, vl) x) ∧ (∀ post : Int32 → SY → Prop, post act v1 → wpY_release post (nI L, nI m, nI S, wy, nI q, ya, se, fl, vv, vt, ot, ra, br, oc, it, le, tk, cn, kd, nu, lf, la, pc, yb, yh, yk, ho, ap, rd, si, vs, os) x) ∧ rr_N pn wp se wy ra it le pe op kd nu co cl si tk cn L S m (rn_P S g b 0 (s + 1)) (s + 1) act u1 v1 := by
  have hT := dd_get h hs hk0 (by omega)
  have hkc : (kd s).toNatClampNeg = 16 := by rw [hk0]; exact nI_clamp (by omega)
  obtain ⟨hbb, j, hj, hhc, hho, hyp, _, hb1, heq⟩ := hT
  have hxc := hb1 hb
  have hxb : bg s = 1 := by rcases hbb.2 with ⟨z, _⟩ | ⟨_, z⟩; omega; exact z
  have hx1 : ¬ bg s = 0 := by rw [hxb]; decide
  have hs8 : s < 8 := by omega
  have hk15 : ¬ kd s = 15 := by rw [hk0]; decide
  have hk14 : ¬ kd s = 14 := by rw [hk0]; decide
  cases hr : r s with
  | zero =>
    rw [hr, Nat.zero_add] at hhc hho
    refine ⟨0, (nI L, pn, wp, nI m, nI S, se, fl, nI q, 0, nI (s + 1), 2, el, rs, sn, it, le, pe, op, kd, nu, co, cl, ap, rd, si, bg, ct, ls, hd, hk, hc, vl), (nI L, nI m, nI S, wy, nI q, ya, se, fl, vv, vt, ot, ra, br, oc, it, le, tk, cn, kd, nu, lf, la, pc, yb, yh, yk, ho, ap, rd, si, vs, os), fun post hp => ?_, fun post hp => ?_, md_end hkd hS hs h (k := 16) fr_id (Or.inl rfl) (Nat.le_refl _) h.1 hkc (fun P' hP => dd_mono (by omega) (Nat.le_of_lt hP) (dd_get h hs hk0 (by omega)))⟩
    · subst hx
      exact ⟨hv, nm_r hk0 (br_f (by decide) (br_f (by decide) (br_f (by decide) (br_f (by decide) (br_f (by decide) (br_f (by decide) (br_f (by decide) (br_f (by decide) (br_f (by decide) (br_f (by decide) (br_f (by decide) (br_f (by decide) (br_f (by decide) (br_f (by decide) (br_f (by decide) (br_f (by decide) (br_t rfl (⟨hv, nm_r hxc ⟨hv, br_f hx1 ⟨hv, br_f (by rw [hhc]; exact Int32.lt_irrefl) (xr_end hp)⟩⟩⟩))))))))))))))))))⟩
    · subst hx
      exact nm_e ⟨hv, br_f hk15 ⟨hv, nm_r hyp ⟨hv, br_t (by rw [hho]) hp⟩⟩⟩
  | succ r0 =>
    rw [hr] at hj hhc hho heq
    have hlt : nI j < nI (r0 + 1 + j) := nI_lt (by omega) (by omega)
    have hval : hd (150 * s + j) = yh (160 * s + j) := by
      have := (heq j (by omega)).1
      rw [rn_sl_at (by omega), rn_sl_at (by omega)] at this
      exact this
    refine ⟨1, (nI L, pn, wp, nI m, nI S, se, fl, nI q, 0, nI (s + 1), 1, hd (150 * s + j), rs, sn, it, le, pe, op, kd, nu, co, cl, ap, rd, si, bg, upd ct s (ct s + 1), ls, hd, hk, hc, vl), (nI L, nI m, nI S, wy, nI q, ya, se, fl, hd (150 * s + j), vt, ot, ra, br, oc, it, le, tk, cn, kd, nu, lf, la, upd pc s (nI (j + 1)), yb, yh, yk, ho, ap, rd, si, vs, os), fun post hp => ?_, fun post hp => ?_, md_give _ hkd hS hs h (k := 16) (r1 := r0) ⟨fun t ht => by simp [pk_un ht], fun i hi => ⟨rfl, rfl⟩, fun i hi => ⟨rfl, rfl⟩⟩ (Or.inl rfl) (Or.inl (by omega)) (Nat.le_refl _) h.1 hkc (fun P' hP => ?_)⟩
    · subst hx
      exact ⟨hv, nm_r hk0 (br_f (by decide) (br_f (by decide) (br_f (by decide) (br_f (by decide) (br_f (by decide) (br_f (by decide) (br_f (by decide) (br_f (by decide) (br_f (by decide) (br_f (by decide) (br_f (by decide) (br_f (by decide) (br_f (by decide) (br_f (by decide) (br_f (by decide) (br_f (by decide) (br_t rfl (⟨hv, nm_r hxc ⟨hv, br_f hx1 ⟨hv, br_t (by rw [hhc]; exact hlt) ⟨hv, br_f hk15 (br_t rfl (xg_75 hv (by omega) hp))⟩⟩⟩⟩))))))))))))))))))⟩
    · subst hx
      have e1 : nI (160 * x.toNatClampNeg) + nI j = nI (160 * x.toNatClampNeg + j) := nI_add _ _
      have e2 : (nI (160 * x.toNatClampNeg) + nI j).toNatClampNeg = 160 * x.toNatClampNeg + j := by rw [e1, nI_clamp (by omega)]
      have hin : vp_in (nI (160 * x.toNatClampNeg) + nI j) 1280 := by rw [e1]; exact vp_in_nI (by omega) (by omega)
      refine nm_r (vx_160 hv) ⟨hv, br_f hk15 ⟨hv, nm_r hyp ⟨hv, br_f ?_ (nm_e ⟨1, hv, br_f hk14 ⟨hin, nm_r (e' := hd (150 * x.toNatClampNeg + j)) ?_ ⟨hin, nm_r (e' := yk (160 * x.toNatClampNeg + j)) (by rw [e2]) ⟨1, hv, br_t ?_ ⟨hv, ?_, nm_r (e' := yh) ?_ ⟨hv, ?_, nm_r (e' := yk) ?_ ⟨hv, hv, nm_r (e' := upd pc x.toNatClampNeg (nI (j + 1))) ?_ hp⟩⟩⟩⟩⟩⟩⟩)⟩⟩⟩
      · rw [hho, nI_eq (by omega) (by omega)]; omega
      · rw [e2, hval]
      · rw [hyp]; exact Int32.le_refl _
      · rw [hyp]; exact hin
      · rw [hyp, e2, hval, upd_self]
      · rw [hyp]; exact hin
      · rw [hyp, e2, upd_self]
      · rw [hyp, nI_1]
    · refine ⟨hbb, j + 1, by omega, ?_, ?_, pk_us, fun z => absurd z (by omega), fun _ => by rw [pk_us, hxc, nI_1], fun i hi => heq i (by omega)⟩
      · rw [hhc]; exact congrArg nI (by omega)
      · rw [hho]; exact congrArg nI (by omega)
theorem so_find (hv : vp_in x 8) (hk0 : kd x.toNatClampNeg = nI 14) {j rr : Nat} (hj : rr + j ≤ 150) (hho : ho x.toNatClampNeg = nI (rr + j)) :
    ∀ (d c p : Nat), c + d = rr → p < c → (∀ i, i < p → yk (160 * x.toNatClampNeg + j + p) < yk (160 * x.toNatClampNeg + j + i)) → (∀ i, p ≤ i → i < c → yk (160 * x.toNatClampNeg + j + p) ≤ yk (160 * x.toNatClampNeg + j + i)) →
    ∃ p' : Nat, p' < rr ∧ (∀ i, i < p' → yk (160 * x.toNatClampNeg + j + p') < yk (160 * x.toNatClampNeg + j + i)) ∧ (∀ i, p' ≤ i → i < rr → yk (160 * x.toNatClampNeg + j + p') ≤ yk (160 * x.toNatClampNeg + j + i)) ∧
      ∀ (post : Int32 → SY → Prop) (nf : Nat), d < nf → wY_release_127 post x (nI (160 * x.toNatClampNeg)) (nI (j + p')) lm sr sc wy sp ya se fl vv vt ot ra br oc it le tk cn kd nu lf la pc yb yh yk ho ap rd si vs os → wY_release_76 post x (nI (160 * x.toNatClampNeg)) lm sr sc wy sp ya se fl vv vt ot ra br oc it le tk cn kd nu lf la pc yb yh yk ho ap rd si vs os nf (nI (j + p)) (nI (j + c)) := by
  have h8 := (vx_n hv).2
  have hk14 : kd x.toNatClampNeg = 14 := hk0
  intro d
  induction d with
  | zero =>
    intro c p hc1 hp h1 h2
    have : c = rr := by omega
    subst this
    refine ⟨p, hp, h1, h2, fun post nf hf h => ?_⟩
    obtain ⟨f, rfl⟩ : ∃ f, nf = f + 1 := ⟨nf - 1, by omega⟩
    exact ⟨hv, br_t hk14 ⟨hv, br_t (by rw [hho, nI_leI (by omega) (by omega)]; omega) h⟩⟩
  | succ d IH =>
    intro c p hc1 hp h1 h2
    have e1 : nI (160 * x.toNatClampNeg) + nI (j + c) = nI (160 * x.toNatClampNeg + j + c) := by rw [nI_add]; exact congrArg nI (by omega)
    have e2 : nI (160 * x.toNatClampNeg) + nI (j + p) = nI (160 * x.toNatClampNeg + j + p) := by rw [nI_add]; exact congrArg nI (by omega)
    have hin1 : vp_in (nI (160 * x.toNatClampNeg) + nI (j + c)) 1280 := by rw [e1]; exact vp_in_nI (by omega) (by omega)
    have hin2 : vp_in (nI (160 * x.toNatClampNeg) + nI (j + p)) 1280 := by rw [e2]; exact vp_in_nI (by omega) (by omega)
    have f1 : (nI (160 * x.toNatClampNeg) + nI (j + c)).toNatClampNeg = 160 * x.toNatClampNeg + j + c := by rw [e1, nI_clamp (by omega)]
    have f2 : (nI (160 * x.toNatClampNeg) + nI (j + p)).toNatClampNeg = 160 * x.toNatClampNeg + j + p := by rw [e2, nI_clamp (by omega)]
    have hnle : ¬ ho x.toNatClampNeg ≤ nI (j + c) := by rw [hho]; exact nI_ge (by omega) (by omega)
    by_cases hle : yk (160 * x.toNatClampNeg + j + p) ≤ yk (160 * x.toNatClampNeg + j + c)
    · obtain ⟨p', g1, g2, g3, g4⟩ := IH (c + 1) p (by omega) (by omega) h1 (fun i hi1 hi2 => by
        by_cases ei : i = c
        · rw [ei]; exact hle
        · exact h2 i hi1 (by omega))
      refine ⟨p', g1, g2, g3, fun post nf hf h => ?_⟩
      obtain ⟨f, rfl⟩ : ∃ f, nf = f + 1 := ⟨nf - 1, by omega⟩
      exact ⟨hv, br_t hk14 ⟨hv, br_f hnle ⟨hin1, hin2, br_t (by rw [f1, f2]; exact hle) (nm_r (nI_1 _) (g4 post f (by omega) h))⟩⟩⟩
    · have hgt : yk (160 * x.toNatClampNeg + j + c) < yk (160 * x.toNatClampNeg + j + p) := Int32.not_le.mp hle
      obtain ⟨p', g1, g2, g3, g4⟩ := IH (c + 1) c (by omega) (by omega) (fun i hi => by
        by_cases hip : i < p
        · exact Int32.lt_trans hgt (h1 i hip)
        · exact Int32.lt_of_lt_of_le hgt (h2 i (by omega) hi)) (fun i hi1 hi2 => by
        have : i = c := by omega
        rw [this]; exact Int32.le_refl _)
      refine ⟨p', g1, g2, g3, fun post nf hf h => ?_⟩
      obtain ⟨f, rfl⟩ : ∃ f, nf = f + 1 := ⟨nf - 1, by omega⟩
      exact ⟨hv, br_t hk14 ⟨hv, br_f hnle ⟨hin1, hin2, br_f (by rw [f1, f2]; exact hle) (nm_r (nI_1 _) (g4 post f (by omega) h))⟩⟩⟩
theorem so_shift (hv : vp_in x 8) {j p : Nat} (hj : j + p < 150) (hyp : pc x.toNatClampNeg = nI j) (key : Int32) (yh yk : Nat → Int32) :
    ∀ (c : Nat) (yh1 yk1 : Nat → Int32), c ≤ p → (∀ i, c ≤ i → i < p → yh1 (160 * x.toNatClampNeg + j + i + 1) = yh (160 * x.toNatClampNeg + j + i) ∧ yk1 (160 * x.toNatClampNeg + j + i + 1) = yk (160 * x.toNatClampNeg + j + i)) → (∀ a, (a ≤ 160 * x.toNatClampNeg + j + c ∨ 160 * x.toNatClampNeg + j + p < a) → yh1 a = yh a ∧ yk1 a = yk a) →
    ∃ yh2 yk2 : Nat → Int32, (∀ i, i < p → yh2 (160 * x.toNatClampNeg + j + i + 1) = yh (160 * x.toNatClampNeg + j + i) ∧ yk2 (160 * x.toNatClampNeg + j + i + 1) = yk (160 * x.toNatClampNeg + j + i)) ∧ (∀ a, (a < 160 * x.toNatClampNeg + j ∨ 160 * x.toNatClampNeg + j + p < a) → yh2 a = yh a ∧ yk2 a = yk a) ∧
      ∀ (post : Int32 → SY → Prop) (nf : Nat), c < nf → post 1 (lm, sr, sc, wy, sp, ya, se, fl, vv, vt, ot, ra, br, oc, it, le, tk, cn, kd, nu, lf, la, upd pc x.toNatClampNeg (nI (j + 1)), yb, yh2, yk2, ho, ap, rd, si, vs, os) → wY_release_152 post x (nI (160 * x.toNatClampNeg)) key lm sr sc wy sp ya se fl vv vt ot ra br oc nf (nI (j + c)) it le tk cn kd nu lf la pc yb yh1 yk1 ho ap rd si vs os := by
  have h8 := (vx_n hv).2
  intro c
  induction c with
  | zero =>
    intro yh1 yk1 hc1 h1 h2
    have e1 : nI (160 * x.toNatClampNeg) + nI j = nI (160 * x.toNatClampNeg + j) := nI_add _ _
    have f1 : (nI (160 * x.toNatClampNeg) + nI j).toNatClampNeg = 160 * x.toNatClampNeg + j := by rw [e1, nI_clamp (by omega)]
    have hin : vp_in (nI (160 * x.toNatClampNeg) + pc x.toNatClampNeg) 1280 := by rw [hyp, e1]; exact vp_in_nI (by omega) (by omega)
    refine ⟨upd yh1 (160 * x.toNatClampNeg + j) vv, upd yk1 (160 * x.toNatClampNeg + j) key, fun i hi => ?_, fun a ha => ?_, fun post nf hf hp => ?_⟩
    · rw [pk_un (by omega), pk_un (by omega)]; exact h1 i (by omega) hi
    · rw [pk_un (by omega), pk_un (by omega)]; exact h2 a (by omega)
    · obtain ⟨f, rfl⟩ : ∃ f, nf = f + 1 := ⟨nf - 1, by omega⟩
      exact ⟨hv, br_t (by rw [hyp]; exact Int32.le_refl _) ⟨hv, hin, nm_r (by rw [hyp, f1]) ⟨hv, hin, nm_r (by rw [hyp, f1]) ⟨hv, hv, nm_r (by rw [hyp, nI_1]) hp⟩⟩⟩⟩
  | succ c IH =>
    intro yh1 yk1 hc1 h1 h2
    have e1 : nI (160 * x.toNatClampNeg) + nI (j + (c + 1)) = nI (160 * x.toNatClampNeg + j + c + 1) := by rw [nI_add]; exact congrArg nI (by omega)
    have f1 : (nI (160 * x.toNatClampNeg) + nI (j + (c + 1))).toNatClampNeg = 160 * x.toNatClampNeg + j + c + 1 := by rw [e1, nI_clamp (by omega)]
    have e0 : nI (160 * x.toNatClampNeg) + nI (j + (c + 1)) - 1 = nI (160 * x.toNatClampNeg + j + c) := by rw [e1, nI_pred]
    have f0 : (nI (160 * x.toNatClampNeg) + nI (j + (c + 1)) - 1).toNatClampNeg = 160 * x.toNatClampNeg + j + c := by rw [e0, nI_clamp (by omega)]
    have hin1 : vp_in (nI (160 * x.toNatClampNeg) + nI (j + (c + 1))) 1280 := by rw [e1]; exact vp_in_nI (by omega) (by omega)
    have hin0 : vp_in (nI (160 * x.toNatClampNeg) + nI (j + (c + 1)) - 1) 1280 := by rw [e0]; exact vp_in_nI (by omega) (by omega)
    have hold := h2 (160 * x.toNatClampNeg + j + c) (by omega)
    obtain ⟨yh2, yk2, g1, g2, g3⟩ := IH (upd yh1 (160 * x.toNatClampNeg + j + c + 1) (yh (160 * x.toNatClampNeg + j + c))) (upd yk1 (160 * x.toNatClampNeg + j + c + 1) (yk (160 * x.toNatClampNeg + j + c))) (by omega) (fun i hi1 hi2 => by
      by_cases ei : i = c
      · subst ei; rw [pk_us, pk_us]; exact ⟨rfl, rfl⟩
      · rw [pk_un (by omega), pk_un (by omega)]; exact h1 i (by omega) hi2) (fun a ha => by
      rw [pk_un (by omega), pk_un (by omega)]; exact h2 a (by omega))
    refine ⟨yh2, yk2, g1, g2, fun post nf hf hp => ?_⟩
    obtain ⟨f, rfl⟩ : ∃ f, nf = f + 1 := ⟨nf - 1, by omega⟩
    refine ⟨hv, br_f ?_ ⟨hin0, hin1, nm_r ?_ ⟨hin0, hin1, nm_r ?_ (nm_r ?_ (g3 post f (by omega) hp))⟩⟩⟩
    · rw [hyp, nI_leI (by omega) (by omega)]; omega
    · rw [f0, f1, hold.1]
    · rw [f0, f1, hold.2]
    · exact pk_m1 (j + c)
theorem so_in (hkd : ∀ t, t < S → (kd t).toNatClampNeg ≤ 16) (hS : S ≤ 8) (hL : L ≤ 150) (hs : s < S) (hv : vp_in x 8) (hx : x.toNatClampNeg = s) (h : dd_D S L m le kd nu g e r b 0 (s + 1) q sn ya bg ct ls hd hk hc lf la pc yb yh yk ho) (hk0 : kd s = nI 14) (hb : b s = 1) :
    ∃ (act : Int32) (u1 : SX) (v1 : SY), (∀ post : SX → Prop, post u1 → wpX_stageAsked post (nI L, pn, wp, nI m, nI S, se, fl, nI q, 0, nI s, 0, el, rs, sn, it, le, pe, op, kd, nu, co, cl, ap, rd, si, bg, ct, ls, hd, hk, hc, vl) x) ∧ (∀ post : Int32 → SY → Prop, post act v1 → wpY_release post (nI L, nI m, nI S, wy, nI q, ya, se, fl, vv, vt, ot, ra, br, oc, it, le, tk, cn, kd, nu, lf, la, pc, yb, yh, yk, ho, ap, rd, si, vs, os) x) ∧ rr_N pn wp se wy ra it le pe op kd nu co cl si tk cn L S m (rn_P S g b 0 (s + 1)) (s + 1) act u1 v1 := by
  have hT := dd_get h hs hk0 (by omega)
  have hkc : (kd s).toNatClampNeg = 14 := by rw [hk0]; exact nI_clamp (by omega)
  obtain ⟨hbb, j, hj, hhc, hho, hyp, _, hb1, hsort⟩ := hT
  have hxc := hb1 hb
  have hxb : bg s = 1 := by rcases hbb.2 with ⟨z, _⟩ | ⟨_, z⟩; omega; exact z
  have hx1 : ¬ bg s = 0 := by rw [hxb]; decide
  have hs8 : s < 8 := by omega
  have hk15 : ¬ kd s = 15 := by rw [hk0]; decide
  cases hr : r s with
  | zero =>
    rw [hr, Nat.zero_add] at hhc hho
    refine ⟨0, (nI L, pn, wp, nI m, nI S, se, fl, nI q, 0, nI (s + 1), 2, el, rs, sn, it, le, pe, op, kd, nu, co, cl, ap, rd, si, bg, ct, ls, hd, hk, hc, vl), (nI L, nI m, nI S, wy, nI q, ya, se, fl, vv, vt, ot, ra, br, oc, it, le, tk, cn, kd, nu, lf, la, pc, yb, yh, yk, ho, ap, rd, si, vs, os), fun post hp => ?_, fun post hp => ?_, md_end hkd hS hs h (k := 14) fr_id (Or.inl rfl) (Nat.le_refl _) h.1 hkc (fun P' hP => dd_mono (by omega) (Nat.le_of_lt hP) (dd_get h hs hk0 (by omega)))⟩
    · subst hx
      exact ⟨hv, nm_r hk0 (br_f (by decide) (br_f (by decide) (br_f (by decide) (br_f (by decide) (br_f (by decide) (br_f (by decide) (br_f (by decide) (br_f (by decide) (br_f (by decide) (br_f (by decide) (br_f (by decide) (br_f (by decide) (br_f (by decide) (br_f (by decide) (br_t rfl (⟨hv, nm_r hxc ⟨hv, br_f hx1 ⟨hv, br_f (by rw [hhc]; exact Int32.lt_irrefl) (xr_end hp)⟩⟩⟩))))))))))))))))⟩
    · subst hx
      exact nm_e ⟨hv, br_f hk15 ⟨hv, nm_r hyp ⟨hv, br_t (by rw [hho]) hp⟩⟩⟩
  | succ r0 =>
    rw [hr] at hj hhc hho hsort
    have hlt : nI j < nI (r0 + 1 + j) := nI_lt (by omega) (by omega)
    subst hx
    obtain ⟨p, p1, p2, p3, p4⟩ := so_find (wy := wy) (ya := ya) (se := se) (fl := fl) (vv := vv) (vt := vt) (ot := ot) (ra := ra) (br := br) (oc := oc) (it := it) (le := le) (tk := tk) (cn := cn) (kd := kd) (nu := nu) (lf := lf) (la := la) (pc := pc) (yb := yb) (yh := yh) (yk := yk) (ho := ho) (ap := ap) (rd := rd) (si := si) (vs := vs) (os := os) (lm := nI L) (sr := nI m) (sc := nI S) (sp := nI q) hv hk0 hj hho r0 1 0 (by omega) (by omega) (fun i hi => absurd hi (by omega)) (fun i hi1 hi2 => by
      have : i = 0 := by omega
      rw [this]; exact Int32.le_refl _)
    obtain ⟨yh2, yk2, t1, t2, t3⟩ := so_shift (wy := wy) (ya := ya) (se := se) (fl := fl) (vt := vt) (ot := ot) (ra := ra) (br := br) (oc := oc) (it := it) (le := le) (tk := tk) (cn := cn) (kd := kd) (nu := nu) (lf := lf) (la := la) (pc := pc) (yb := yb) (ho := ho) (ap := ap) (rd := rd) (si := si) (vs := vs) (os := os) (lm := nI L) (sr := nI m) (sc := nI S) (sp := nI q) (vv := yh (160 * x.toNatClampNeg + j + p)) hv (by omega) hyp (yk (160 * x.toNatClampNeg + j + p)) yh yk p yh yk (Nat.le_refl _) (fun i h1 h2 => absurd h2 (by omega)) (fun _ _ => ⟨rfl, rfl⟩)
    -- the mathematics
    have hmath := ls_take (fun i => (rn_sl yk 160 x.toNatClampNeg (j + i), rn_sl yh 160 x.toNatClampNeg (j + i))) (fun i => (rn_sl yk2 160 x.toNatClampNeg (j + 1 + i), rn_sl yh2 160 x.toNatClampNeg (j + 1 + i))) _ r0 p p1
      (fun i hi => by
        try dsimp only
        rw [rn_sl_at (by omega), rn_sl_at (by omega), ← Nat.add_assoc, ← Nat.add_assoc]; exact p2 i hi)
      (fun i hi1 hi2 => by
        try dsimp only
        rw [rn_sl_at (by omega), rn_sl_at (by omega), ← Nat.add_assoc, ← Nat.add_assoc]; exact p3 i hi1 hi2)
      (fun i hi => by
        try dsimp only
        rw [rn_sl_at (by omega), rn_sl_at (by omega), rn_sl_at (by omega), rn_sl_at (by omega)]
        have := t1 i hi
        rw [show 160 * x.toNatClampNeg + (j + 1 + i) = 160 * x.toNatClampNeg + j + i + 1 from by omega, show 160 * x.toNatClampNeg + (j + i) = 160 * x.toNatClampNeg + j + i from by omega, this.1, this.2])
      (fun i hi1 hi2 => by
        try dsimp only
        rw [rn_sl_at (by omega), rn_sl_at (by omega), rn_sl_at (by omega), rn_sl_at (by omega)]
        have := t2 (160 * x.toNatClampNeg + (j + 1 + i)) (by omega)
        rw [this.1, this.2, show j + 1 + i = j + (i + 1) from by omega])
      _ _ (show ls_l (fun i => (rn_sl hk 150 x.toNatClampNeg (j + i), rn_sl hd 150 x.toNatClampNeg (j + i))) (r0 + 1) = _ from rfl) hsort
    have hval : hd (150 * x.toNatClampNeg + j) = yh (160 * x.toNatClampNeg + j + p) := by
      have := congrArg Prod.snd hmath.1
      dsimp only at this
      rw [rn_sl_at (by omega), rn_sl_at (by omega)] at this
      rw [Nat.add_assoc]
      exact this
    refine ⟨1, (nI L, pn, wp, nI m, nI S, se, fl, nI q, 0, nI (x.toNatClampNeg + 1), 1, hd (150 * x.toNatClampNeg + j), rs, sn, it, le, pe, op, kd, nu, co, cl, ap, rd, si, bg, upd ct x.toNatClampNeg (ct x.toNatClampNeg + 1), ls, hd, hk, hc, vl), (nI L, nI m, nI S, wy, nI q, ya, se, fl, hd (150 * x.toNatClampNeg + j), vt, ot, ra, br, oc, it, le, tk, cn, kd, nu, lf, la, upd pc x.toNatClampNeg (nI (j + 1)), yb, yh2, yk2, ho, ap, rd, si, vs, os), fun post hp => ?_, fun post hp => ?_, md_give _ hkd hS hs h (k := 14) (r1 := r0) ⟨fun t ht => by simp [pk_un ht], fun i hi => ⟨rfl, rfl⟩, fun i hi => t2 i (by omega)⟩ (Or.inl rfl) (Or.inl (by omega)) (Nat.le_refl _) h.1 hkc (fun P' hP => ?_)⟩
    · exact ⟨hv, nm_r hk0 (br_f (by decide) (br_f (by decide) (br_f (by decide) (br_f (by decide) (br_f (by decide) (br_f (by decide) (br_f (by decide) (br_f (by decide) (br_f (by decide) (br_f (by decide) (br_f (by decide) (br_f (by decide) (br_f (by decide) (br_f (by decide) (br_t rfl (⟨hv, nm_r hxc ⟨hv, br_f hx1 ⟨hv, br_t (by rw [hhc]; exact hlt) ⟨hv, br_f hk15 (br_t rfl (xg_75 hv (by omega) hp))⟩⟩⟩⟩))))))))))))))))⟩
    · have e1 : nI (160 * x.toNatClampNeg) + nI (j + p) = nI (160 * x.toNatClampNeg + j + p) := by rw [nI_add]; exact congrArg nI (by omega)
      have f1 : (nI (160 * x.toNatClampNeg) + nI (j + p)).toNatClampNeg = 160 * x.toNatClampNeg + j + p := by rw [e1, nI_clamp (by omega)]
      have hin : vp_in (nI (160 * x.toNatClampNeg) + nI (j + p)) 1280 := by rw [e1]; exact vp_in_nI (by omega) (by omega)
      rw [hval] at hp
      refine nm_r (vx_160 hv) ⟨hv, br_f hk15 ⟨hv, nm_r hyp ⟨hv, br_f ?_ (nm_r (nI_1 _) ⟨_, p4 post _ (Nat.lt_succ_self _) ⟨hin, nm_r (e' := yh (160 * x.toNatClampNeg + j + p)) (by rw [f1]) ⟨hin, nm_r (e' := yk (160 * x.toNatClampNeg + j + p)) (by rw [f1]) ⟨_, t3 post _ (Nat.lt_succ_self _) hp⟩⟩⟩⟩)⟩⟩⟩
      rw [hho, nI_eq (by omega) (by omega)]; omega
    · refine ⟨hbb, j + 1, by omega, ?_, ?_, pk_us, fun z => absurd z (by omega), fun _ => by rw [pk_us, hxc, nI_1], ?_⟩
      · rw [hhc]; exact congrArg nI (by omega)
      · rw [hho]; exact congrArg nI (by omega)
      · have e : ls_l (fun i => (rn_sl hk 150 x.toNatClampNeg (j + 1 + i), rn_sl hd 150 x.toNatClampNeg (j + 1 + i))) r0 = ls_l (fun i => (rn_sl hk 150 x.toNatClampNeg (j + (i + 1)), rn_sl hd 150 x.toNatClampNeg (j + (i + 1)))) r0 := ls_congr _ _ _ (fun i _ => by rw [show j + 1 + i = j + (i + 1) from by omega])
        rw [e]
        exact hmath.2
theorem as_15 (hkd : ∀ t, t < S → (kd t).toNatClampNeg ≤ 16) (hS : S ≤ 8) (hL : L ≤ 150) (hs : s < S) (hv : vp_in x 8) (hx : x.toNatClampNeg = s) (h : dd_D S L m le kd nu g e r b 0 (s + 1) q sn ya bg ct ls hd hk hc lf la pc yb yh yk ho) (hk0 : kd s = nI 15) : ∃ (act : Int32) (u1 : SX) (v1 : SY), (∀ post : SX → Prop, post u1 → wpX_stageAsked post (nI L, pn, wp, nI m, nI S, se, fl, nI q, 0, nI s, 0, el, rs, sn, it, le, pe, op, kd, nu, co, cl, ap, rd, si, bg, ct, ls, hd, hk, hc, vl) x) ∧ (∀ post : Int32 → SY → Prop, post act v1 → wpY_asked post (nI L, nI m, nI S, wy, nI q, ya, se, fl, vv, vt, ot, ra, br, oc, it, le, tk, cn, kd, nu, lf, la, pc, yb, yh, yk, ho, ap, rd, si, vs, os) x) ∧ rr_N pn wp se wy ra it le pe op kd nu co cl si tk cn L S m (rn_P S g b 0 (s + 1)) (s + 1) act u1 v1 := by
  have hT := dd_get h hs hk0 (by omega)
  obtain ⟨hbb, _⟩ := hT
  rcases hbb.2 with ⟨b0, x0⟩ | ⟨b1, x1⟩
  · refine as_ask hkd hS hL hs hv hx h hk0 (by omega) (fun z => b0) (fun post hp => ?_) (fun post hp => ?_)
    all_goals subst hx
    · exact ⟨hv, nm_r hk0 (br_f (by decide) (br_f (by decide) (br_f (by decide) (br_f (by decide) (br_f (by decide) (br_f (by decide) (br_f (by decide) (br_f (by decide) (br_f (by decide) (br_f (by decide) (br_f (by decide) (br_f (by decide) (br_f (by decide) (br_f (by decide) (br_f (by decide) (br_t rfl (⟨hv, nm_e ⟨hv, br_t x0 (xr_ask hp)⟩⟩)))))))))))))))))⟩
    · exact ⟨hv, nm_r hk0 (br_f (by decide) (br_f (by decide) (br_f (by decide) (br_f (by decide) (br_f (by decide) (br_f (by decide) (br_f (by decide) (br_f (by decide) (br_f (by decide) (br_f (by decide) (br_f (by decide) (br_f (by decide) (br_f (by decide) (br_f (by decide) (br_f (by decide) (br_t rfl (⟨hv, br_t (by rw [← hbb.1]; exact x0) hp⟩)))))))))))))))))⟩
  · obtain ⟨act, u1, v1, w1, w2, w3⟩ := rv_in (pn := pn) (wp := wp) (se := se) (fl := fl) (el := el) (rs := rs) (sn := sn) (it := it) (le := le) (pe := pe) (op := op) (kd := kd) (nu := nu) (co := co) (cl := cl) (ap := ap) (rd := rd) (si := si) (bg := bg) (ct := ct) (ls := ls) (hd := hd) (hk := hk) (hc := hc) (vl := vl) (wy := wy) (ya := ya) (vv := vv) (vt := vt) (ot := ot) (ra := ra) (br := br) (oc := oc) (tk := tk) (cn := cn) (lf := lf) (la := la) (pc := pc) (yb := yb) (yh := yh) (yk := yk) (ho := ho) (vs := vs) (os := os) hkd hS hL hs hv hx h hk0 b1
    refine ⟨act, u1, v1, w1, fun post hp => ?_, w3⟩
    subst hx
    exact ⟨hv, nm_r hk0 (br_f (by decide) (br_f (by decide) (br_f (by decide) (br_f (by decide) (br_f (by decide) (br_f (by decide) (br_f (by decide) (br_f (by decide) (br_f (by decide) (br_f (by decide) (br_f (by decide) (br_f (by decide) (br_f (by decide) (br_f (by decide) (br_f (by decide) (br_t rfl (⟨hv, br_f (by rw [← hbb.1, x1]; decide) (w2 _ (sy_eta hp))⟩)))))))))))))))))⟩
theorem as_16 (hkd : ∀ t, t < S → (kd t).toNatClampNeg ≤ 16) (hS : S ≤ 8) (hL : L ≤ 150) (hs : s < S) (hv : vp_in x 8) (hx : x.toNatClampNeg = s) (h : dd_D S L m le kd nu g e r b 0 (s + 1) q sn ya bg ct ls hd hk hc lf la pc yb yh yk ho) (hk0 : kd s = nI 16) : ∃ (act : Int32) (u1 : SX) (v1 : SY), (∀ post : SX → Prop, post u1 → wpX_stageAsked post (nI L, pn, wp, nI m, nI S, se, fl, nI q, 0, nI s, 0, el, rs, sn, it, le, pe, op, kd, nu, co, cl, ap, rd, si, bg, ct, ls, hd, hk, hc, vl) x) ∧ (∀ post : Int32 → SY → Prop, post act v1 → wpY_asked post (nI L, nI m, nI S, wy, nI q, ya, se, fl, vv, vt, ot, ra, br, oc, it, le, tk, cn, kd, nu, lf, la, pc, yb, yh, yk, ho, ap, rd, si, vs, os) x) ∧ rr_N pn wp se wy ra it le pe op kd nu co cl si tk cn L S m (rn_P S g b 0 (s + 1)) (s + 1) act u1 v1 := by
  have hT := dd_get h hs hk0 (by omega)
  obtain ⟨hbb, _⟩ := hT
  rcases hbb.2 with ⟨b0, x0⟩ | ⟨b1, x1⟩
  · refine as_ask hkd hS hL hs hv hx h hk0 (by omega) (fun z => b0) (fun post hp => ?_) (fun post hp => ?_)
    all_goals subst hx
    · exact ⟨hv, nm_r hk0 (br_f (by decide) (br_f (by decide) (br_f (by decide) (br_f (by decide) (br_f (by decide) (br_f (by decide) (br_f (by decide) (br_f (by decide) (br_f (by decide) (br_f (by decide) (br_f (by decide) (br_f (by decide) (br_f (by decide) (br_f (by decide) (br_f (by decide) (br_f (by decide) (br_t rfl (⟨hv, nm_e ⟨hv, br_t x0 (xr_ask hp)⟩⟩))))))))))))))))))⟩
    · exact ⟨hv, nm_r hk0 (br_f (by decide) (br_f (by decide) (br_f (by decide) (br_f (by decide) (br_f (by decide) (br_f (by decide) (br_f (by decide) (br_f (by decide) (br_f (by decide) (br_f (by decide) (br_f (by decide) (br_f (by decide) (br_f (by decide) (br_f (by decide) (br_f (by decide) (br_f (by decide) (br_t rfl (⟨hv, br_t (by rw [← hbb.1]; exact x0) hp⟩))))))))))))))))))⟩
  · obtain ⟨act, u1, v1, w1, w2, w3⟩ := gr_in (pn := pn) (wp := wp) (se := se) (fl := fl) (el := el) (rs := rs) (sn := sn) (it := it) (le := le) (pe := pe) (op := op) (kd := kd) (nu := nu) (co := co) (cl := cl) (ap := ap) (rd := rd) (si := si) (bg := bg) (ct := ct) (ls := ls) (hd := hd) (hk := hk) (hc := hc) (vl := vl) (wy := wy) (ya := ya) (vv := vv) (vt := vt) (ot := ot) (ra := ra) (br := br) (oc := oc) (tk := tk) (cn := cn) (lf := lf) (la := la) (pc := pc) (yb := yb) (yh := yh) (yk := yk) (ho := ho) (vs := vs) (os := os) hkd hS hL hs hv hx h hk0 b1
    refine ⟨act, u1, v1, w1, fun post hp => ?_, w3⟩
    subst hx
    exact ⟨hv, nm_r hk0 (br_f (by decide) (br_f (by decide) (br_f (by decide) (br_f (by decide) (br_f (by decide) (br_f (by decide) (br_f (by decide) (br_f (by decide) (br_f (by decide) (br_f (by decide) (br_f (by decide) (br_f (by decide) (br_f (by decide) (br_f (by decide) (br_f (by decide) (br_f (by decide) (br_t rfl (⟨hv, br_f (by rw [← hbb.1, x1]; decide) (w2 _ (sy_eta hp))⟩))))))))))))))))))⟩
theorem as_14 (hkd : ∀ t, t < S → (kd t).toNatClampNeg ≤ 16) (hS : S ≤ 8) (hL : L ≤ 150) (hs : s < S) (hv : vp_in x 8) (hx : x.toNatClampNeg = s) (h : dd_D S L m le kd nu g e r b 0 (s + 1) q sn ya bg ct ls hd hk hc lf la pc yb yh yk ho) (hk0 : kd s = nI 14) : ∃ (act : Int32) (u1 : SX) (v1 : SY), (∀ post : SX → Prop, post u1 → wpX_stageAsked post (nI L, pn, wp, nI m, nI S, se, fl, nI q, 0, nI s, 0, el, rs, sn, it, le, pe, op, kd, nu, co, cl, ap, rd, si, bg, ct, ls, hd, hk, hc, vl) x) ∧ (∀ post : Int32 → SY → Prop, post act v1 → wpY_asked post (nI L, nI m, nI S, wy, nI q, ya, se, fl, vv, vt, ot, ra, br, oc, it, le, tk, cn, kd, nu, lf, la, pc, yb, yh, yk, ho, ap, rd, si, vs, os) x) ∧ rr_N pn wp se wy ra it le pe op kd nu co cl si tk cn L S m (rn_P S g b 0 (s + 1)) (s + 1) act u1 v1 := by
  have hT := dd_get h hs hk0 (by omega)
  obtain ⟨hbb, _⟩ := hT
  rcases hbb.2 with ⟨b0, x0⟩ | ⟨b1, x1⟩
  · refine as_ask hkd hS hL hs hv hx h hk0 (by omega) (fun z => b0) (fun post hp => ?_) (fun post hp => ?_)
    all_goals subst hx
    · exact ⟨hv, nm_r hk0 (br_f (by decide) (br_f (by decide) (br_f (by decide) (br_f (by decide) (br_f (by decide) (br_f (by decide) (br_f (by decide) (br_f (by decide) (br_f (by decide) (br_f (by decide) (br_f (by decide) (br_f (by decide) (br_f (by decide) (br_f (by decide) (br_t rfl (⟨hv, nm_e ⟨hv, br_t x0 (xr_ask hp)⟩⟩))))))))))))))))⟩
    · exact ⟨hv, nm_r hk0 (br_f (by decide) (br_f (by decide) (br_f (by decide) (br_f (by decide) (br_f (by decide) (br_f (by decide) (br_f (by decide) (br_f (by decide) (br_f (by decide) (br_f (by decide) (br_f (by decide) (br_f (by decide) (br_f (by decide) (br_f (by decide) (br_t rfl (⟨hv, br_t (by rw [← hbb.1]; exact x0) hp⟩))))))))))))))))⟩
  · obtain ⟨act, u1, v1, w1, w2, w3⟩ := so_in (pn := pn) (wp := wp) (se := se) (fl := fl) (el := el) (rs := rs) (sn := sn) (it := it) (le := le) (pe := pe) (op := op) (kd := kd) (nu := nu) (co := co) (cl := cl) (ap := ap) (rd := rd) (si := si) (bg := bg) (ct := ct) (ls := ls) (hd := hd) (hk := hk) (hc := hc) (vl := vl) (wy := wy) (ya := ya) (vv := vv) (vt := vt) (ot := ot) (ra := ra) (br := br) (oc := oc) (tk := tk) (cn := cn) (lf := lf) (la := la) (pc := pc) (yb := yb) (yh := yh) (yk := yk) (ho := ho) (vs := vs) (os := os) hkd hS hL hs hv hx h hk0 b1
    refine ⟨act, u1, v1, w1, fun post hp => ?_, w3⟩
    subst hx
    exact ⟨hv, nm_r hk0 (br_f (by decide) (br_f (by decide) (br_f (by decide) (br_f (by decide) (br_f (by decide) (br_f (by decide) (br_f (by decide) (br_f (by decide) (br_f (by decide) (br_f (by decide) (br_f (by decide) (br_f (by decide) (br_f (by decide) (br_f (by decide) (br_t rfl (⟨hv, br_f (by rw [← hbb.1, x1]; decide) (w2 _ (sy_eta hp))⟩))))))))))))))))⟩
end
end
section
section
variable {lm pn wp sr sc se fl sp pt sg el rs sn wy ya vv vt ot ra br : Int32} {en oc : Int64} {it le pe op kd nu co cl ap rd si bg ct ls hd hk hc vl tk cn lf la pc yb yh yk ho vs os : Nat → Int32}
variable {bg' ct' ls' hd' hk' hc' lf' la' pc' yb' yh' yk' ho' : Nat → Int32} {S L m q s sgn k : Nat} {g e r b : Nat → Nat} {x y : Int32}
theorem cm_0 (hkd : ∀ t, t < S → (kd t).toNatClampNeg ≤ 16) (hS : S ≤ 8) (hL : L ≤ 150) (hs : s < S) (hv : vp_in x 8) (hx : x.toNatClampNeg = s) (h : dd_D S L m le kd nu g e r b 1 (s + 1) q sn ya bg ct ls hd hk hc lf la pc yb yh yk ho) (hk0 : kd s = nI 0) (hE : rl_Ex co cl tk cn s) : ∃ (act : Int32) (u1 : SX) (v1 : SY), (∀ post : SX → Prop, post u1 → wpX_elementCame post (nI L, pn, wp, nI m, nI S, se, fl, nI q, 0, nI s, 1, y, rs, sn, it, le, pe, op, kd, nu, co, cl, ap, rd, si, bg, ct, ls, hd, hk, hc, vl) x y) ∧ (∀ post : Int32 → SY → Prop, post act v1 → wpY_came post (nI L, nI m, nI S, wy, nI q, ya, se, fl, y, vt, ot, ra, br, oc, it, le, tk, cn, kd, nu, lf, la, pc, yb, yh, yk, ho, ap, rd, si, vs, os) x) ∧ rr_N pn wp se wy ra it le pe op kd nu co cl si tk cn L S m (rn_P S g b 1 (s + 1)) (s + 1) act u1 v1 := by
  have hkc : (kd s).toNatClampNeg = 0 := by rw [hk0]; exact nI_clamp (by omega)
  have hk5 : ¬ kd s = 5 := by rw [hk0]; decide
  have hk1 : ¬ kd s = 1 := by rw [hk0]; decide
  rcases rn_apx (pn := pn) (wp := wp) (se := se) (fl := fl) (rs := rs) (sn := sn) (it := it) (le := le) (pe := pe) (op := op) (kd := kd) (nu := nu) (co := co) (cl := cl) (ap := ap) (rd := rd) (si := si) (bg := bg) (ct := ct) (ls := ls) (hd := hd) (hk := hk) (hc := hc) (vl := vl) (wy := wy) (ya := ya) (vt := vt) (ot := ot) (ra := ra) (br := br) (oc := oc) (tk := tk) (cn := cn) (lf := lf) (la := la) (pc := pc) (yb := yb) (yh := yh) (yk := yk) (ho := ho) (vs := vs) (os := os) (sr := nI m) (sc := nI S) (en := 0) (pt := nI s) (sg := 1) (el := y) (vv := y) hL h.1 hv hx hE y 0 with ⟨oe, p', fl', vv', vt', ot', br', ap', vl', vs', os', w1, w2, w3⟩ | ⟨hq, v, vt', ot', br', vl', vs', os', w2, w3⟩
  · refine ⟨3, (nI L, pn, wp, nI m, nI S, se, fl', nI p', oe, nI s, 1, y, rs, sn, it, le, pe, op, kd, nu, co, cl, ap', rd, si, bg, ct, ls, hd, hk, hc, vl'), (nI L, nI m, nI S, wy, nI p', ya, se, fl', vv', vt', ot', ra, br', oe, it, le, tk, cn, kd, nu, lf, la, pc, yb, yh, yk, ho, ap', rd, si, vs', os'), fun post hp => ?_, fun post hp => ?_, md_out w1⟩
    · have hA : ∀ post : SX → Prop, post (nI L, pn, wp, nI m, nI S, se, fl', nI p', oe, nI s, 1, y, rs, sn, it, le, pe, op, kd, nu, co, cl, ap', rd, si, bg, ct, ls, hd, hk, hc, vl') → wpX_applyTo post (nI L, pn, wp, nI m, nI S, se, fl, nI q, 0, nI s, 1, y, rs, sn, it, le, pe, op, kd, nu, co, cl, ap, rd, si, bg, ct, ls, hd, hk, hc, vl) x y := fun post hp => by
        unfold wpX_applyTo; exact w2 _ (br_t rfl hp)
      subst hx
      exact ⟨hv, nm_r hk0 (br_f (by decide) (br_f (by decide) (br_t rfl (hA _ hp))))⟩
    · subst hx
      exact ⟨hv, nm_r hk0 (br_f (by decide) (br_f (by decide) (br_t rfl (⟨hv, br_f hk5 (w3 _ (br_t rfl hp))⟩))))⟩
  · by_cases hz : v = 0
    · refine ⟨2, (nI L, pn, wp, nI m, nI S, se, fl, nI (q + 1), 0, rn_aI s, 0, y, v, sn, it, le, pe, op, kd, nu, co, cl, upd ap s (ap s + 1), rd, si, bg, ct, ls, hd, hk, hc, vl'), (nI L, nI m, nI S, wy, nI (q + 1), ya, se, fl, y, vt', ot', ra, br', oc, it, le, tk, cn, kd, nu, lf, la, pc, upd yb s (vp_nar .boolean 1), yh, yk, ho, upd ap s (ap s + 1), rd, si, vs', os'), fun post hp => ?_, fun post hp => ?_, md_ask hkd hS hs h (k := 0) (r1 := r s) ⟨fun t ht => by simp [pk_un ht], fun i hi => ⟨rfl, rfl⟩, fun i hi => ⟨rfl, rfl⟩⟩ (Or.inr rfl) (Or.inl (Nat.le_refl _)) (fun z => absurd z (by simp [rn_cl])) (by omega) (by omega) hkc (fun P' hP => trivial)⟩
      · have hA : ∀ post : SX → Prop, post (nI L, pn, wp, nI m, nI S, se, fl, nI (q + 1), 0, rn_aI s, 0, y, v, sn, it, le, pe, op, kd, nu, co, cl, upd ap s (ap s + 1), rd, si, bg, ct, ls, hd, hk, hc, vl') → wpX_applyTo post (nI L, pn, wp, nI m, nI S, se, fl, nI q, 0, nI s, 1, y, rs, sn, it, le, pe, op, kd, nu, co, cl, ap, rd, si, bg, ct, ls, hd, hk, hc, vl) x y := fun post hp => by
          subst hx
          unfold wpX_applyTo; exact w2 _ (br_f (by decide) ⟨hv, br_f hk1 (br_t hz ⟨hv, br_t hk0 (xr_ask hp)⟩)⟩)
        subst hx
        exact ⟨hv, nm_r hk0 (br_f (by decide) (br_f (by decide) (br_t rfl (hA _ hp))))⟩
      · subst hx
        exact ⟨hv, nm_r hk0 (br_f (by decide) (br_f (by decide) (br_t rfl (⟨hv, br_f hk5 (w3 _ (br_f (by decide) (br_t hz (br_t rfl ⟨hv, nm_e ⟨hv, br_f hk5 (br_t rfl ⟨hv, br_t hk0 hp⟩)⟩⟩))))⟩))))⟩
    · refine ⟨1, (nI L, pn, wp, nI m, nI S, se, fl, nI (q + 1), 0, nI (s + 1), 1, y, v, sn, it, le, pe, op, kd, nu, co, cl, upd ap s (ap s + 1), rd, si, bg, ct, ls, hd, hk, hc, vl'), (nI L, nI m, nI S, wy, nI (q + 1), ya, se, fl, y, vt', ot', ra, br', oc, it, le, tk, cn, kd, nu, lf, la, pc, upd yb s (vp_nar .boolean 0), yh, yk, ho, upd ap s (ap s + 1), rd, si, vs', os'), fun post hp => ?_, fun post hp => ?_, md_give y hkd hS hs h (k := 0) (r1 := r s) ⟨fun t ht => by simp [pk_un ht], fun i hi => ⟨rfl, rfl⟩, fun i hi => ⟨rfl, rfl⟩⟩ (Or.inr rfl) (Or.inr ⟨rfl, Nat.le_refl _⟩) (by omega) (by omega) hkc (fun P' hP => trivial)⟩
      · have hA : ∀ post : SX → Prop, post (nI L, pn, wp, nI m, nI S, se, fl, nI (q + 1), 0, nI (s + 1), 1, y, v, sn, it, le, pe, op, kd, nu, co, cl, upd ap s (ap s + 1), rd, si, bg, ct, ls, hd, hk, hc, vl') → wpX_applyTo post (nI L, pn, wp, nI m, nI S, se, fl, nI q, 0, nI s, 1, y, rs, sn, it, le, pe, op, kd, nu, co, cl, ap, rd, si, bg, ct, ls, hd, hk, hc, vl) x y := fun post hp => by
          subst hx
          unfold wpX_applyTo; exact w2 _ (br_f (by decide) ⟨hv, br_f hk1 (br_f hz (xr_give hp))⟩)
        subst hx
        exact ⟨hv, nm_r hk0 (br_f (by decide) (br_f (by decide) (br_t rfl (hA _ hp))))⟩
      · subst hx
        exact ⟨hv, nm_r hk0 (br_f (by decide) (br_f (by decide) (br_t rfl (⟨hv, br_f hk5 (w3 _ (br_f (by decide) (br_f hz (br_f (by decide) ⟨hv, nm_e ⟨hv, br_f hk5 (br_f (by decide) hp)⟩⟩))))⟩))))⟩
theorem cm_4 (hkd : ∀ t, t < S → (kd t).toNatClampNeg ≤ 16) (hS : S ≤ 8) (hL : L ≤ 150) (hs : s < S) (hv : vp_in x 8) (hx : x.toNatClampNeg = s) (h : dd_D S L m le kd nu g e r b 1 (s + 1) q sn ya bg ct ls hd hk hc lf la pc yb yh yk ho) (hk0 : kd s = nI 4) (hE : rl_Ex co cl tk cn s) : ∃ (act : Int32) (u1 : SX) (v1 : SY), (∀ post : SX → Prop, post u1 → wpX_elementCame post (nI L, pn, wp, nI m, nI S, se, fl, nI q, 0, nI s, 1, y, rs, sn, it, le, pe, op, kd, nu, co, cl, ap, rd, si, bg, ct, ls, hd, hk, hc, vl) x y) ∧ (∀ post : Int32 → SY → Prop, post act v1 → wpY_came post (nI L, nI m, nI S, wy, nI q, ya, se, fl, y, vt, ot, ra, br, oc, it, le, tk, cn, kd, nu, lf, la, pc, yb, yh, yk, ho, ap, rd, si, vs, os) x) ∧ rr_N pn wp se wy ra it le pe op kd nu co cl si tk cn L S m (rn_P S g b 1 (s + 1)) (s + 1) act u1 v1 := by
  have hkc : (kd s).toNatClampNeg = 4 := by rw [hk0]; exact nI_clamp (by omega)
  have hk5 : ¬ kd s = 5 := by rw [hk0]; decide
  have hk1 : ¬ kd s = 1 := by rw [hk0]; decide
  have hkz : ¬ kd s = 0 := by rw [hk0]; decide
  rcases rn_apx (pn := pn) (wp := wp) (se := se) (fl := fl) (rs := rs) (sn := sn) (it := it) (le := le) (pe := pe) (op := op) (kd := kd) (nu := nu) (co := co) (cl := cl) (ap := ap) (rd := rd) (si := si) (bg := bg) (ct := ct) (ls := ls) (hd := hd) (hk := hk) (hc := hc) (vl := vl) (wy := wy) (ya := ya) (vt := vt) (ot := ot) (ra := ra) (br := br) (oc := oc) (tk := tk) (cn := cn) (lf := lf) (la := la) (pc := pc) (yb := yb) (yh := yh) (yk := yk) (ho := ho) (vs := vs) (os := os) (sr := nI m) (sc := nI S) (en := 0) (pt := nI s) (sg := 1) (el := y) (vv := y) hL h.1 hv hx hE y 0 with ⟨oe, p', fl', vv', vt', ot', br', ap', vl', vs', os', w1, w2, w3⟩ | ⟨hq, v, vt', ot', br', vl', vs', os', w2, w3⟩
  · refine ⟨3, (nI L, pn, wp, nI m, nI S, se, fl', nI p', oe, nI s, 1, y, rs, sn, it, le, pe, op, kd, nu, co, cl, ap', rd, si, bg, ct, ls, hd, hk, hc, vl'), (nI L, nI m, nI S, wy, nI p', ya, se, fl', vv', vt', ot', ra, br', oe, it, le, tk, cn, kd, nu, lf, la, pc, yb, yh, yk, ho, ap', rd, si, vs', os'), fun post hp => ?_, fun post hp => ?_, md_out w1⟩
    · have hA : ∀ post : SX → Prop, post (nI L, pn, wp, nI m, nI S, se, fl', nI p', oe, nI s, 1, y, rs, sn, it, le, pe, op, kd, nu, co, cl, ap', rd, si, bg, ct, ls, hd, hk, hc, vl') → wpX_applyTo post (nI L, pn, wp, nI m, nI S, se, fl, nI q, 0, nI s, 1, y, rs, sn, it, le, pe, op, kd, nu, co, cl, ap, rd, si, bg, ct, ls, hd, hk, hc, vl) x y := fun post hp => by
        unfold wpX_applyTo; exact w2 _ (br_t rfl hp)
      subst hx
      exact ⟨hv, nm_r hk0 (br_f (by decide) (br_f (by decide) (br_f (by decide) (br_f (by decide) (br_f (by decide) (br_f (by decide) (br_t rfl (hA _ hp))))))))⟩
    · subst hx
      exact ⟨hv, nm_r hk0 (br_f (by decide) (br_f (by decide) (br_f (by decide) (br_f (by decide) (br_f (by decide) (br_f (by decide) (br_t rfl (⟨hv, br_f hk5 (w3 _ (br_t rfl hp))⟩))))))))⟩
  · by_cases hz : v = 0
    · refine ⟨0, (nI L, pn, wp, nI m, nI S, se, fl, nI (q + 1), 0, nI (s + 1), 2, y, v, sn, it, le, pe, op, kd, nu, co, cl, upd ap s (ap s + 1), rd, si, bg, ct, ls, hd, hk, hc, vl'), (nI L, nI m, nI S, wy, nI (q + 1), ya, se, fl, y, vt', ot', ra, br', oc, it, le, tk, cn, kd, nu, lf, la, pc, upd yb s (vp_nar .boolean 1), yh, yk, ho, upd ap s (ap s + 1), rd, si, vs', os'), fun post hp => ?_, fun post hp => ?_, md_end hkd hS hs h (k := 4) ⟨fun t ht => by simp [pk_un ht], fun i hi => ⟨rfl, rfl⟩, fun i hi => ⟨rfl, rfl⟩⟩ (Or.inr (Or.inl rfl)) (by omega) (by omega) hkc (fun P' hP => trivial)⟩
      · have hA : ∀ post : SX → Prop, post (nI L, pn, wp, nI m, nI S, se, fl, nI (q + 1), 0, nI (s + 1), 2, y, v, sn, it, le, pe, op, kd, nu, co, cl, upd ap s (ap s + 1), rd, si, bg, ct, ls, hd, hk, hc, vl') → wpX_applyTo post (nI L, pn, wp, nI m, nI S, se, fl, nI q, 0, nI s, 1, y, rs, sn, it, le, pe, op, kd, nu, co, cl, ap, rd, si, bg, ct, ls, hd, hk, hc, vl) x y := fun post hp => by
          subst hx
          unfold wpX_applyTo; exact w2 _ (br_f (by decide) ⟨hv, br_f hk1 (br_t hz ⟨hv, br_f hkz (xr_end hp)⟩)⟩)
        subst hx
        exact ⟨hv, nm_r hk0 (br_f (by decide) (br_f (by decide) (br_f (by decide) (br_f (by decide) (br_f (by decide) (br_f (by decide) (br_t rfl (hA _ hp))))))))⟩
      · subst hx
        exact ⟨hv, nm_r hk0 (br_f (by decide) (br_f (by decide) (br_f (by decide) (br_f (by decide) (br_f (by decide) (br_f (by decide) (br_t rfl (⟨hv, br_f hk5 (w3 _ (br_f (by decide) (br_t hz (br_t rfl ⟨hv, nm_e ⟨hv, br_f hk5 (br_t rfl ⟨hv, br_f hkz hp⟩)⟩⟩))))⟩))))))))⟩
    · refine ⟨1, (nI L, pn, wp, nI m, nI S, se, fl, nI (q + 1), 0, nI (s + 1), 1, y, v, sn, it, le, pe, op, kd, nu, co, cl, upd ap s (ap s + 1), rd, si, bg, ct, ls, hd, hk, hc, vl'), (nI L, nI m, nI S, wy, nI (q + 1), ya, se, fl, y, vt', ot', ra, br', oc, it, le, tk, cn, kd, nu, lf, la, pc, upd yb s (vp_nar .boolean 0), yh, yk, ho, upd ap s (ap s + 1), rd, si, vs', os'), fun post hp => ?_, fun post hp => ?_, md_give y hkd hS hs h (k := 4) (r1 := r s) ⟨fun t ht => by simp [pk_un ht], fun i hi => ⟨rfl, rfl⟩, fun i hi => ⟨rfl, rfl⟩⟩ (Or.inr rfl) (Or.inr ⟨rfl, Nat.le_refl _⟩) (by omega) (by omega) hkc (fun P' hP => trivial)⟩
      · have hA : ∀ post : SX → Prop, post (nI L, pn, wp, nI m, nI S, se, fl, nI (q + 1), 0, nI (s + 1), 1, y, v, sn, it, le, pe, op, kd, nu, co, cl, upd ap s (ap s + 1), rd, si, bg, ct, ls, hd, hk, hc, vl') → wpX_applyTo post (nI L, pn, wp, nI m, nI S, se, fl, nI q, 0, nI s, 1, y, rs, sn, it, le, pe, op, kd, nu, co, cl, ap, rd, si, bg, ct, ls, hd, hk, hc, vl) x y := fun post hp => by
          subst hx
          unfold wpX_applyTo; exact w2 _ (br_f (by decide) ⟨hv, br_f hk1 (br_f hz (xr_give hp))⟩)
        subst hx
        exact ⟨hv, nm_r hk0 (br_f (by decide) (br_f (by decide) (br_f (by decide) (br_f (by decide) (br_f (by decide) (br_f (by decide) (br_t rfl (hA _ hp))))))))⟩
      · subst hx
        exact ⟨hv, nm_r hk0 (br_f (by decide) (br_f (by decide) (br_f (by decide) (br_f (by decide) (br_f (by decide) (br_f (by decide) (br_t rfl (⟨hv, br_f hk5 (w3 _ (br_f (by decide) (br_f hz (br_f (by decide) ⟨hv, nm_e ⟨hv, br_f hk5 (br_f (by decide) hp)⟩⟩))))⟩))))))))⟩
theorem cm_1 (hkd : ∀ t, t < S → (kd t).toNatClampNeg ≤ 16) (hS : S ≤ 8) (hL : L ≤ 150) (hs : s < S) (hv : vp_in x 8) (hx : x.toNatClampNeg = s) (h : dd_D S L m le kd nu g e r b 1 (s + 1) q sn ya bg ct ls hd hk hc lf la pc yb yh yk ho) (hk0 : kd s = nI 1) (hE : rl_Ex co cl tk cn s) : ∃ (act : Int32) (u1 : SX) (v1 : SY), (∀ post : SX → Prop, post u1 → wpX_elementCame post (nI L, pn, wp, nI m, nI S, se, fl, nI q, 0, nI s, 1, y, rs, sn, it, le, pe, op, kd, nu, co, cl, ap, rd, si, bg, ct, ls, hd, hk, hc, vl) x y) ∧ (∀ post : Int32 → SY → Prop, post act v1 → wpY_came post (nI L, nI m, nI S, wy, nI q, ya, se, fl, y, vt, ot, ra, br, oc, it, le, tk, cn, kd, nu, lf, la, pc, yb, yh, yk, ho, ap, rd, si, vs, os) x) ∧ rr_N pn wp se wy ra it le pe op kd nu co cl si tk cn L S m (rn_P S g b 1 (s + 1)) (s + 1) act u1 v1 := by
  have hkc : (kd s).toNatClampNeg = 1 := by rw [hk0]; exact nI_clamp (by omega)
  rcases rn_apx (pn := pn) (wp := wp) (se := se) (fl := fl) (rs := rs) (sn := sn) (it := it) (le := le) (pe := pe) (op := op) (kd := kd) (nu := nu) (co := co) (cl := cl) (ap := ap) (rd := rd) (si := si) (bg := bg) (ct := ct) (ls := ls) (hd := hd) (hk := hk) (hc := hc) (vl := vl) (wy := wy) (ya := ya) (vt := vt) (ot := ot) (ra := ra) (br := br) (oc := oc) (tk := tk) (cn := cn) (lf := lf) (la := la) (pc := pc) (yb := yb) (yh := yh) (yk := yk) (ho := ho) (vs := vs) (os := os) (sr := nI m) (sc := nI S) (en := 0) (pt := nI s) (sg := 1) (el := y) (vv := y) hL h.1 hv hx hE y 0 with ⟨oe, p', fl', vv', vt', ot', br', ap', vl', vs', os', w1, w2, w3⟩ | ⟨hq, v, vt', ot', br', vl', vs', os', w2, w3⟩
  · refine ⟨3, (nI L, pn, wp, nI m, nI S, se, fl', nI p', oe, nI s, 1, y, rs, sn, it, le, pe, op, kd, nu, co, cl, ap', rd, si, bg, ct, ls, hd, hk, hc, vl'), (nI L, nI m, nI S, wy, nI p', ya, se, fl', vv', vt', ot', ra, br', oe, it, le, tk, cn, kd, nu, lf, la, pc, yb, yh, yk, ho, ap', rd, si, vs', os'), fun post hp => ?_, fun post hp => ?_, md_out w1⟩
    · have hA : ∀ post : SX → Prop, post (nI L, pn, wp, nI m, nI S, se, fl', nI p', oe, nI s, 1, y, rs, sn, it, le, pe, op, kd, nu, co, cl, ap', rd, si, bg, ct, ls, hd, hk, hc, vl') → wpX_applyTo post (nI L, pn, wp, nI m, nI S, se, fl, nI q, 0, nI s, 1, y, rs, sn, it, le, pe, op, kd, nu, co, cl, ap, rd, si, bg, ct, ls, hd, hk, hc, vl) x y := fun post hp => by
        unfold wpX_applyTo; exact w2 _ (br_t rfl hp)
      subst hx
      exact ⟨hv, nm_r hk0 (br_f (by decide) (br_f (by decide) (br_f (by decide) (br_t rfl (hA _ hp)))))⟩
    · subst hx
      exact ⟨hv, nm_r hk0 (br_f (by decide) (br_f (by decide) (br_f (by decide) (br_t rfl (w3 _ (br_t rfl hp))))))⟩
  · refine ⟨1, (nI L, pn, wp, nI m, nI S, se, fl, nI (q + 1), 0, nI (s + 1), 1, v, v, sn, it, le, pe, op, kd, nu, co, cl, upd ap s (ap s + 1), rd, si, bg, ct, ls, hd, hk, hc, vl'), (nI L, nI m, nI S, wy, nI (q + 1), ya, se, fl, v, vt', ot', ra, br', oc, it, le, tk, cn, kd, nu, lf, la, pc, yb, yh, yk, ho, upd ap s (ap s + 1), rd, si, vs', os'), fun post hp => ?_, fun post hp => ?_, md_give v hkd hS hs h (k := 1) (r1 := r s) ⟨fun t ht => by simp [pk_un ht], fun i hi => ⟨rfl, rfl⟩, fun i hi => ⟨rfl, rfl⟩⟩ (Or.inr rfl) (Or.inr ⟨rfl, Nat.le_refl _⟩) (by omega) (by omega) hkc (fun P' hP => trivial)⟩
    · have hA : ∀ post : SX → Prop, post (nI L, pn, wp, nI m, nI S, se, fl, nI (q + 1), 0, nI (s + 1), 1, v, v, sn, it, le, pe, op, kd, nu, co, cl, upd ap s (ap s + 1), rd, si, bg, ct, ls, hd, hk, hc, vl') → wpX_applyTo post (nI L, pn, wp, nI m, nI S, se, fl, nI q, 0, nI s, 1, y, rs, sn, it, le, pe, op, kd, nu, co, cl, ap, rd, si, bg, ct, ls, hd, hk, hc, vl) x y := fun post hp => by
        subst hx
        unfold wpX_applyTo; exact w2 _ (br_f (by decide) ⟨hv, br_t hk0 (xr_give hp)⟩)
      subst hx
      exact ⟨hv, nm_r hk0 (br_f (by decide) (br_f (by decide) (br_f (by decide) (br_t rfl (hA _ hp)))))⟩
    · subst hx
      exact ⟨hv, nm_r hk0 (br_f (by decide) (br_f (by decide) (br_f (by decide) (br_t rfl (w3 _ (br_f (by decide) hp))))))⟩
theorem cm_5 (hkd : ∀ t, t < S → (kd t).toNatClampNeg ≤ 16) (hS : S ≤ 8) (hL : L ≤ 150) (hs : s < S) (hv : vp_in x 8) (hx : x.toNatClampNeg = s) (h : dd_D S L m le kd nu g e r b 1 (s + 1) q sn ya bg ct ls hd hk hc lf la pc yb yh yk ho) (hk0 : kd s = nI 5) (hE : rl_Ex co cl tk cn s) : ∃ (act : Int32) (u1 : SX) (v1 : SY), (∀ post : SX → Prop, post u1 → wpX_elementCame post (nI L, pn, wp, nI m, nI S, se, fl, nI q, 0, nI s, 1, y, rs, sn, it, le, pe, op, kd, nu, co, cl, ap, rd, si, bg, ct, ls, hd, hk, hc, vl) x y) ∧ (∀ post : Int32 → SY → Prop, post act v1 → wpY_came post (nI L, nI m, nI S, wy, nI q, ya, se, fl, y, vt, ot, ra, br, oc, it, le, tk, cn, kd, nu, lf, la, pc, yb, yh, yk, ho, ap, rd, si, vs, os) x) ∧ rr_N pn wp se wy ra it le pe op kd nu co cl si tk cn L S m (rn_P S g b 1 (s + 1)) (s + 1) act u1 v1 := by
  have hkc : (kd s).toNatClampNeg = 5 := by rw [hk0]; exact nI_clamp (by omega)
  have hk5 : kd s = 5 := hk0
  have hT : bg s = yb s := dd_get h hs hk0 (by omega)
  by_cases hb1 : bg s = 0
  · rcases rn_apx (pn := pn) (wp := wp) (se := se) (fl := fl) (rs := rs) (sn := sn) (it := it) (le := le) (pe := pe) (op := op) (kd := kd) (nu := nu) (co := co) (cl := cl) (ap := ap) (rd := rd) (si := si) (bg := bg) (ct := ct) (ls := ls) (hd := hd) (hk := hk) (hc := hc) (vl := vl) (wy := wy) (ya := ya) (vt := vt) (ot := ot) (ra := ra) (br := br) (oc := oc) (tk := tk) (cn := cn) (lf := lf) (la := la) (pc := pc) (yb := yb) (yh := yh) (yk := yk) (ho := ho) (vs := vs) (os := os) (sr := nI m) (sc := nI S) (en := 0) (pt := nI s) (sg := 1) (el := y) (vv := y) hL h.1 hv hx hE y 0 with ⟨oe, p', fl', vv', vt', ot', br', ap', vl', vs', os', w1, w2, w3⟩ | ⟨hq, v, vt', ot', br', vl', vs', os', w2, w3⟩
    · refine ⟨3, (nI L, pn, wp, nI m, nI S, se, fl', nI p', oe, nI s, 1, y, rs, sn, it, le, pe, op, kd, nu, co, cl, ap', rd, si, bg, ct, ls, hd, hk, hc, vl'), (nI L, nI m, nI S, wy, nI p', ya, se, fl', vv', vt', ot', ra, br', oe, it, le, tk, cn, kd, nu, lf, la, pc, yb, yh, yk, ho, ap', rd, si, vs', os'), fun post hp => ?_, fun post hp => ?_, md_out w1⟩
      · subst hx
        exact ⟨hv, nm_r hk0 (br_f (by decide) (br_f (by decide) (br_f (by decide) (br_f (by decide) (br_f (by decide) (br_f (by decide) (br_f (by decide) (br_t rfl (⟨hv, br_t hb1 (w2 _ (br_t rfl hp))⟩)))))))))⟩
      · subst hx
        exact ⟨hv, nm_r hk0 (br_f (by decide) (br_f (by decide) (br_f (by decide) (br_f (by decide) (br_f (by decide) (br_f (by decide) (br_f (by decide) (br_t rfl (⟨hv, br_t hk5 ⟨hv, br_t (by rw [← hT]; exact hb1) (w3 _ (br_t rfl hp))⟩⟩)))))))))⟩
    · by_cases hz : v = 0
      · refine ⟨1, (nI L, pn, wp, nI m, nI S, se, fl, nI (q + 1), 0, nI (s + 1), 1, y, v, sn, it, le, pe, op, kd, nu, co, cl, upd ap s (ap s + 1), rd, si, upd bg s (vp_nar .boolean 1), ct, ls, hd, hk, hc, vl'), (nI L, nI m, nI S, wy, nI (q + 1), ya, se, fl, y, vt', ot', ra, br', oc, it, le, tk, cn, kd, nu, lf, la, pc, upd yb s (vp_nar .boolean 1), yh, yk, ho, upd ap s (ap s + 1), rd, si, vs', os'), fun post hp => ?_, fun post hp => ?_, md_give y hkd hS hs h (k := 5) (r1 := r s) ⟨fun t ht => by simp [pk_un ht], fun i hi => ⟨rfl, rfl⟩, fun i hi => ⟨rfl, rfl⟩⟩ (Or.inr rfl) (Or.inr ⟨rfl, Nat.le_refl _⟩) (by omega) (by omega) hkc (fun P' hP => ?_)⟩
        · subst hx
          exact ⟨hv, nm_r hk0 (br_f (by decide) (br_f (by decide) (br_f (by decide) (br_f (by decide) (br_f (by decide) (br_f (by decide) (br_f (by decide) (br_t rfl (⟨hv, br_t hb1 (w2 _ (br_f (by decide) (br_t hz ⟨hv, nm_e (xr_give hp)⟩)))⟩)))))))))⟩
        · subst hx
          exact ⟨hv, nm_r hk0 (br_f (by decide) (br_f (by decide) (br_f (by decide) (br_f (by decide) (br_f (by decide) (br_f (by decide) (br_f (by decide) (br_t rfl (⟨hv, br_t hk5 ⟨hv, br_t (by rw [← hT]; exact hb1) (w3 _ (br_f (by decide) (br_t hz (br_t rfl ⟨hv, nm_e ⟨hv, br_t hk5 (br_t rfl hp)⟩⟩))))⟩⟩)))))))))⟩
        · show upd bg s _ s = upd yb s _ s
          rw [pk_us, pk_us]
      · refine ⟨2, (nI L, pn, wp, nI m, nI S, se, fl, nI (q + 1), 0, rn_aI s, 0, y, v, sn, it, le, pe, op, kd, nu, co, cl, upd ap s (ap s + 1), rd, si, bg, ct, ls, hd, hk, hc, vl'), (nI L, nI m, nI S, wy, nI (q + 1), ya, se, fl, y, vt', ot', ra, br', oc, it, le, tk, cn, kd, nu, lf, la, pc, upd yb s (vp_nar .boolean 0), yh, yk, ho, upd ap s (ap s + 1), rd, si, vs', os'), fun post hp => ?_, fun post hp => ?_, md_ask hkd hS hs h (k := 5) (r1 := r s) ⟨fun t ht => by simp [pk_un ht], fun i hi => ⟨rfl, rfl⟩, fun i hi => ⟨rfl, rfl⟩⟩ (Or.inr rfl) (Or.inl (Nat.le_refl _)) (fun z => absurd z (by simp [rn_cl])) (by omega) (by omega) hkc (fun P' hP => ?_)⟩
        · subst hx
          exact ⟨hv, nm_r hk0 (br_f (by decide) (br_f (by decide) (br_f (by decide) (br_f (by decide) (br_f (by decide) (br_f (by decide) (br_f (by decide) (br_t rfl (⟨hv, br_t hb1 (w2 _ (br_f (by decide) (br_f hz (xr_ask hp))))⟩)))))))))⟩
        · subst hx
          exact ⟨hv, nm_r hk0 (br_f (by decide) (br_f (by decide) (br_f (by decide) (br_f (by decide) (br_f (by decide) (br_f (by decide) (br_f (by decide) (br_t rfl (⟨hv, br_t hk5 ⟨hv, br_t (by rw [← hT]; exact hb1) (w3 _ (br_f (by decide) (br_f hz (br_f (by decide) ⟨hv, nm_e ⟨hv, br_t hk5 (br_f (by decide) hp)⟩⟩))))⟩⟩)))))))))⟩
        · show bg s = upd yb s _ s
          rw [pk_us, vn_0]; exact hb1
  · refine ⟨1, (nI L, pn, wp, nI m, nI S, se, fl, nI q, 0, nI (s + 1), 1, y, rs, sn, it, le, pe, op, kd, nu, co, cl, ap, rd, si, bg, ct, ls, hd, hk, hc, vl), (nI L, nI m, nI S, wy, nI q, ya, se, fl, y, vt, ot, ra, br, oc, it, le, tk, cn, kd, nu, lf, la, pc, yb, yh, yk, ho, ap, rd, si, vs, os), fun post hp => ?_, fun post hp => ?_, md_give y hkd hS hs h (k := 5) (r1 := r s) fr_id (Or.inr rfl) (Or.inr ⟨rfl, Nat.le_refl _⟩) (Nat.le_refl _) h.1 hkc (fun P' hP => hT)⟩
    · subst hx
      exact ⟨hv, nm_r hk0 (br_f (by decide) (br_f (by decide) (br_f (by decide) (br_f (by decide) (br_f (by decide) (br_f (by decide) (br_f (by decide) (br_t rfl (⟨hv, br_f hb1 (xr_give hp)⟩)))))))))⟩
    · subst hx
      exact ⟨hv, nm_r hk0 (br_f (by decide) (br_f (by decide) (br_f (by decide) (br_f (by decide) (br_f (by decide) (br_f (by decide) (br_f (by decide) (br_t rfl (⟨hv, br_t hk5 ⟨hv, br_f (by rw [← hT]; exact hb1) hp⟩⟩)))))))))⟩
theorem cm_2 (hkd : ∀ t, t < S → (kd t).toNatClampNeg ≤ 16) (hS : S ≤ 8) (hL : L ≤ 150) (hs : s < S) (hv : vp_in x 8) (hx : x.toNatClampNeg = s) (h : dd_D S L m le kd nu g e r b 1 (s + 1) q sn ya bg ct ls hd hk hc lf la pc yb yh yk ho) (hk0 : kd s = nI 2) : ∃ (act : Int32) (u1 : SX) (v1 : SY), (∀ post : SX → Prop, post u1 → wpX_elementCame post (nI L, pn, wp, nI m, nI S, se, fl, nI q, 0, nI s, 1, y, rs, sn, it, le, pe, op, kd, nu, co, cl, ap, rd, si, bg, ct, ls, hd, hk, hc, vl) x y) ∧ (∀ post : Int32 → SY → Prop, post act v1 → wpY_came post (nI L, nI m, nI S, wy, nI q, ya, se, fl, y, vt, ot, ra, br, oc, it, le, tk, cn, kd, nu, lf, la, pc, yb, yh, yk, ho, ap, rd, si, vs, os) x) ∧ rr_N pn wp se wy ra it le pe op kd nu co cl si tk cn L S m (rn_P S g b 1 (s + 1)) (s + 1) act u1 v1 := by
  have hkc : (kd s).toNatClampNeg = 2 := by rw [hk0]; exact nI_clamp (by omega)
  have hT : ct s = lf s := dd_get h hs hk0 (by omega)
  refine ⟨1, (nI L, pn, wp, nI m, nI S, se, fl, nI q, 0, nI (s + 1), 1, y, rs, sn, it, le, pe, op, kd, nu, co, cl, ap, rd, si, bg, upd ct s (ct s + 1), ls, hd, hk, hc, vl), (nI L, nI m, nI S, wy, nI q, ya, se, fl, y, vt, ot, ra, br, oc, it, le, tk, cn, kd, nu, upd lf s (lf s + 1), la, pc, yb, yh, yk, ho, ap, rd, si, vs, os), fun post hp => ?_, fun post hp => ?_, md_give y hkd hS hs h (k := 2) (r1 := r s) ⟨fun t ht => by simp [pk_un ht], fun i hi => ⟨rfl, rfl⟩, fun i hi => ⟨rfl, rfl⟩⟩ (Or.inr rfl) (Or.inr ⟨rfl, Nat.le_refl _⟩) (Nat.le_refl _) h.1 hkc (fun P' hP => ?_)⟩
  · subst hx
    exact ⟨hv, nm_r hk0 (br_f (by decide) (br_f (by decide) (br_f (by decide) (br_f (by decide) (br_t rfl (⟨hv, hv, nm_e (xr_give hp)⟩))))))⟩
  · subst hx
    exact ⟨hv, nm_r hk0 (br_f (by decide) (br_f (by decide) (br_f (by decide) (br_f (by decide) (br_t rfl (⟨hv, hv, nm_e hp⟩))))))⟩
  · show upd ct s _ s = upd lf s _ s
    rw [pk_us, pk_us, hT]
theorem cm_3 (hkd : ∀ t, t < S → (kd t).toNatClampNeg ≤ 16) (hS : S ≤ 8) (hL : L ≤ 150) (hs : s < S) (hv : vp_in x 8) (hx : x.toNatClampNeg = s) (h : dd_D S L m le kd nu g e r b 1 (s + 1) q sn ya bg ct ls hd hk hc lf la pc yb yh yk ho) (hk0 : kd s = nI 3) : ∃ (act : Int32) (u1 : SX) (v1 : SY), (∀ post : SX → Prop, post u1 → wpX_elementCame post (nI L, pn, wp, nI m, nI S, se, fl, nI q, 0, nI s, 1, y, rs, sn, it, le, pe, op, kd, nu, co, cl, ap, rd, si, bg, ct, ls, hd, hk, hc, vl) x y) ∧ (∀ post : Int32 → SY → Prop, post act v1 → wpY_came post (nI L, nI m, nI S, wy, nI q, ya, se, fl, y, vt, ot, ra, br, oc, it, le, tk, cn, kd, nu, lf, la, pc, yb, yh, yk, ho, ap, rd, si, vs, os) x) ∧ rr_N pn wp se wy ra it le pe op kd nu co cl si tk cn L S m (rn_P S g b 1 (s + 1)) (s + 1) act u1 v1 := by
  have hkc : (kd s).toNatClampNeg = 3 := by rw [hk0]; exact nI_clamp (by omega)
  have hPb := dd_bound hS hL (by omega) h
  obtain ⟨j, hj, hlf, hn1, hn2⟩ := dd_get h hs hk0 (by omega)
  have hl1 : lf s + 1 = nI (j + 1) := by rw [hlf, nI_1]
  by_cases hneg : nu s < 1
  · have hct := hn1 hneg
    have hle0 : nu s ≤ 0 := by
      apply Classical.byContradiction
      intro z
      have z := Int32.not_le.mp z
      rw [Int32.lt_iff_toInt_lt] at z hneg
      have e0 : (0 : Int32).toInt = 0 := by decide
      have e1 : (1 : Int32).toInt = 1 := by decide
      omega
    refine ⟨1, (nI L, pn, wp, nI m, nI S, se, fl, nI q, 0, nI (s + 1), 1, y, rs, sn, it, le, pe, op, kd, nu, co, cl, ap, rd, si, bg, ct, ls, hd, hk, hc, vl), (nI L, nI m, nI S, wy, nI q, ya, se, fl, y, vt, ot, ra, br, oc, it, le, tk, cn, kd, nu, upd lf s (lf s + 1), la, pc, yb, yh, yk, ho, ap, rd, si, vs, os), fun post hp => ?_, fun post hp => ?_, md_give y hkd hS hs h (k := 3) (r1 := r s) ⟨fun t ht => by simp [pk_un ht], fun i hi => ⟨rfl, rfl⟩, fun i hi => ⟨rfl, rfl⟩⟩ (Or.inr rfl) (Or.inr ⟨rfl, Nat.le_refl _⟩) (Nat.le_refl _) h.1 hkc (fun P' hP => ?_)⟩
    · subst hx
      exact ⟨hv, nm_r hk0 (br_f (by decide) (br_f (by decide) (br_f (by decide) (br_f (by decide) (br_f (by decide) (br_t rfl (⟨hv, hv, br_t (by rw [hct]; exact hle0) (xr_give hp)⟩)))))))⟩
    · subst hx
      refine ⟨hv, nm_r hk0 (br_f (by decide) (br_f (by decide) (br_f (by decide) (br_f (by decide) (br_f (by decide) (br_t rfl (⟨hv, hv, nm_e ⟨hv, hv, br_t ?_ hp⟩⟩)))))))⟩
      rw [pk_us, hl1]
      exact Int32.lt_of_le_of_lt hle0 (nI_lt (a := 0) (by omega) (by omega))
    · refine ⟨j + 1, by omega, by rw [pk_us]; exact hl1, fun _ => hct, fun mm hmm e => ?_⟩
      rw [e] at hneg hle0
      have : mm = 0 := by
        have := (nI_leI (a := mm) (b := 0) hmm (by omega)).mp hle0
        omega
      subst this
      rw [hct, Nat.min_zero]; rfl
  · obtain ⟨mm, hmm, e⟩ := nI_of (x := nu s) (fun z => hneg (Int32.lt_trans z (by decide)))
    have hm1 : 1 ≤ mm := by
      apply Classical.byContradiction
      intro z
      have : mm = 0 := by omega
      subst this
      exact hneg (by rw [e]; decide)
    have hct := hn2 mm hmm e
    by_cases hmj : mm ≤ j
    · rw [Nat.min_eq_right hmj] at hct
      refine ⟨1, (nI L, pn, wp, nI m, nI S, se, fl, nI q, 0, nI (s + 1), 1, y, rs, sn, it, le, pe, op, kd, nu, co, cl, ap, rd, si, bg, ct, ls, hd, hk, hc, vl), (nI L, nI m, nI S, wy, nI q, ya, se, fl, y, vt, ot, ra, br, oc, it, le, tk, cn, kd, nu, upd lf s (lf s + 1), la, pc, yb, yh, yk, ho, ap, rd, si, vs, os), fun post hp => ?_, fun post hp => ?_, md_give y hkd hS hs h (k := 3) (r1 := r s) ⟨fun t ht => by simp [pk_un ht], fun i hi => ⟨rfl, rfl⟩, fun i hi => ⟨rfl, rfl⟩⟩ (Or.inr rfl) (Or.inr ⟨rfl, Nat.le_refl _⟩) (Nat.le_refl _) h.1 hkc (fun P' hP => ?_)⟩
      · subst hx
        exact ⟨hv, nm_r hk0 (br_f (by decide) (br_f (by decide) (br_f (by decide) (br_f (by decide) (br_f (by decide) (br_t rfl (⟨hv, hv, br_t (by rw [hct, e]; exact Int32.le_refl _) (xr_give hp)⟩)))))))⟩
      · subst hx
        refine ⟨hv, nm_r hk0 (br_f (by decide) (br_f (by decide) (br_f (by decide) (br_f (by decide) (br_f (by decide) (br_t rfl (⟨hv, hv, nm_e ⟨hv, hv, br_t ?_ hp⟩⟩)))))))⟩
        rw [pk_us, hl1, e]
        exact nI_lt (by omega) (by omega)
      · refine ⟨j + 1, by omega, by rw [pk_us]; exact hl1, fun z => absurd z hneg, fun m2 hm2 e2 => ?_⟩
        rw [e] at e2
        have := (nI_eq hmm hm2).mp e2
        subst this
        rw [hct, Nat.min_eq_right (by omega)]
    · rw [Nat.min_eq_left (by omega)] at hct
      refine ⟨2, (nI L, pn, wp, nI m, nI S, se, fl, nI q, 0, rn_aI s, 0, y, rs, sn, it, le, pe, op, kd, nu, co, cl, ap, rd, si, bg, upd ct s (ct s + 1), ls, hd, hk, hc, vl), (nI L, nI m, nI S, wy, nI q, ya, se, fl, y, vt, ot, ra, br, oc, it, le, tk, cn, kd, nu, upd lf s (lf s + 1), la, pc, yb, yh, yk, ho, ap, rd, si, vs, os), fun post hp => ?_, fun post hp => ?_, md_ask hkd hS hs h (k := 3) (r1 := r s) ⟨fun t ht => by simp [pk_un ht], fun i hi => ⟨rfl, rfl⟩, fun i hi => ⟨rfl, rfl⟩⟩ (Or.inr rfl) (Or.inl (Nat.le_refl _)) (fun z => absurd z (by simp [rn_cl])) (Nat.le_refl _) h.1 hkc (fun P' hP => ?_)⟩
      · subst hx
        refine ⟨hv, nm_r hk0 (br_f (by decide) (br_f (by decide) (br_f (by decide) (br_f (by decide) (br_f (by decide) (br_t rfl (⟨hv, hv, br_f ?_ ⟨hv, hv, nm_e (xr_ask hp)⟩⟩)))))))⟩
        rw [hct, e]; exact nI_ge (by omega) hmm
      · subst hx
        refine ⟨hv, nm_r hk0 (br_f (by decide) (br_f (by decide) (br_f (by decide) (br_f (by decide) (br_f (by decide) (br_t rfl (⟨hv, hv, nm_e ⟨hv, hv, br_f ?_ ⟨hv, br_t (Int32.not_lt.mp hneg) hp⟩⟩⟩)))))))⟩
        rw [pk_us, hl1, e, nI_ltI hmm (by omega)]; omega
      · refine ⟨j + 1, by omega, by rw [pk_us]; exact hl1, fun z => absurd z hneg, fun m2 hm2 e2 => ?_⟩
        rw [e] at e2
        have := (nI_eq hmm hm2).mp e2
        subst this
        rw [pk_us, hct, nI_1, Nat.min_eq_left (by omega)]
theorem cm_6 (hkd : ∀ t, t < S → (kd t).toNatClampNeg ≤ 16) (hS : S ≤ 8) (hL : L ≤ 150) (hs : s < S) (hv : vp_in x 8) (hx : x.toNatClampNeg = s) (h : dd_D S L m le kd nu g e r b 1 (s + 1) q sn ya bg ct ls hd hk hc lf la pc yb yh yk ho) (hk0 : kd s = nI 6) : ∃ (act : Int32) (u1 : SX) (v1 : SY), (∀ post : SX → Prop, post u1 → wpX_elementCame post (nI L, pn, wp, nI m, nI S, se, fl, nI q, 0, nI s, 1, y, rs, sn, it, le, pe, op, kd, nu, co, cl, ap, rd, si, bg, ct, ls, hd, hk, hc, vl) x y) ∧ (∀ post : Int32 → SY → Prop, post act v1 → wpY_came post (nI L, nI m, nI S, wy, nI q, ya, se, fl, y, vt, ot, ra, br, oc, it, le, tk, cn, kd, nu, lf, la, pc, yb, yh, yk, ho, ap, rd, si, vs, os) x) ∧ rr_N pn wp se wy ra it le pe op kd nu co cl si tk cn L S m (rn_P S g b 1 (s + 1)) (s + 1) act u1 v1 := by
  have hkc : (kd s).toNatClampNeg = 6 := by rw [hk0]; exact nI_clamp (by omega)
  have hk7 : ¬ kd s = 7 := by rw [hk0]; decide
  refine ⟨1, (nI L, pn, wp, nI m, nI S, se, fl, nI q, 0, nI (s + 1), 1, y, rs, sn, it, le, pe, op, kd, nu, co, cl, ap, rd, si, bg, upd ct s (nu s - 1), upd ls s y, hd, hk, hc, vl), (nI L, nI m, nI S, wy, nI q, ya, se, fl, y, vt, ot, ra, br, oc, it, le, tk, cn, kd, nu, upd lf s (nu s - 1), upd la s y, pc, yb, yh, yk, ho, ap, rd, si, vs, os), fun post hp => ?_, fun post hp => ?_, md_give y hkd hS hs h (k := 6) (r1 := r s) ⟨fun t ht => by simp [pk_un ht], fun i hi => ⟨rfl, rfl⟩, fun i hi => ⟨rfl, rfl⟩⟩ (Or.inr rfl) (Or.inr ⟨rfl, Nat.le_refl _⟩) (Nat.le_refl _) h.1 hkc (fun P' hP => ?_)⟩
  · subst hx
    exact ⟨hv, nm_r hk0 (br_f (by decide) (br_f (by decide) (br_f (by decide) (br_f (by decide) (br_f (by decide) (br_f (by decide) (br_f (by decide) (br_f (by decide) (br_t rfl (⟨hv, hv, nm_e ⟨hv, nm_e (xr_give hp)⟩⟩))))))))))⟩
  · subst hx
    exact ⟨hv, nm_r hk0 (br_f (by decide) (br_f (by decide) (br_f (by decide) (br_f (by decide) (br_f (by decide) (br_f (by decide) (br_f (by decide) (br_f (by decide) (br_t rfl (⟨hv, nm_e ⟨hv, br_f hk7 ⟨hv, hv, nm_e hp⟩⟩⟩))))))))))⟩
  · show upd ct s _ s = upd lf s _ s ∧ (_ → upd ls s _ s = upd la s _ s)
    rw [pk_us, pk_us, pk_us, pk_us]; exact ⟨rfl, fun _ => rfl⟩
theorem cm_7 (hkd : ∀ t, t < S → (kd t).toNatClampNeg ≤ 16) (hS : S ≤ 8) (hL : L ≤ 150) (hs : s < S) (hv : vp_in x 8) (hx : x.toNatClampNeg = s) (h : dd_D S L m le kd nu g e r b 1 (s + 1) q sn ya bg ct ls hd hk hc lf la pc yb yh yk ho) (hk0 : kd s = nI 7) : ∃ (act : Int32) (u1 : SX) (v1 : SY), (∀ post : SX → Prop, post u1 → wpX_elementCame post (nI L, pn, wp, nI m, nI S, se, fl, nI q, 0, nI s, 1, y, rs, sn, it, le, pe, op, kd, nu, co, cl, ap, rd, si, bg, ct, ls, hd, hk, hc, vl) x y) ∧ (∀ post : Int32 → SY → Prop, post act v1 → wpY_came post (nI L, nI m, nI S, wy, nI q, ya, se, fl, y, vt, ot, ra, br, oc, it, le, tk, cn, kd, nu, lf, la, pc, yb, yh, yk, ho, ap, rd, si, vs, os) x) ∧ rr_N pn wp se wy ra it le pe op kd nu co cl si tk cn L S m (rn_P S g b 1 (s + 1)) (s + 1) act u1 v1 := by
  have hkc : (kd s).toNatClampNeg = 7 := by rw [hk0]; exact nI_clamp (by omega)
  have hk7 : kd s = 7 := hk0
  refine ⟨1, (nI L, pn, wp, nI m, nI S, se, fl, nI q, 0, nI (s + 1), 1, y, rs, sn, it, le, pe, op, kd, nu, co, cl, ap, rd, si, bg, upd ct s 2, upd ls s y, hd, hk, hc, vl), (nI L, nI m, nI S, wy, nI q, ya, se, fl, y, vt, ot, ra, br, oc, it, le, tk, cn, kd, nu, upd lf s 2, upd la s y, pc, yb, yh, yk, ho, ap, rd, si, vs, os), fun post hp => ?_, fun post hp => ?_, md_give y hkd hS hs h (k := 7) (r1 := r s) ⟨fun t ht => by simp [pk_un ht], fun i hi => ⟨rfl, rfl⟩, fun i hi => ⟨rfl, rfl⟩⟩ (Or.inr rfl) (Or.inr ⟨rfl, Nat.le_refl _⟩) (Nat.le_refl _) h.1 hkc (fun P' hP => ?_)⟩
  · subst hx
    exact ⟨hv, nm_r hk0 (br_f (by decide) (br_f (by decide) (br_f (by decide) (br_f (by decide) (br_f (by decide) (br_f (by decide) (br_f (by decide) (br_f (by decide) (br_f (by decide) (br_t rfl (⟨hv, nm_e ⟨hv, nm_e (xr_give hp)⟩⟩)))))))))))⟩
  · subst hx
    exact ⟨hv, nm_r hk0 (br_f (by decide) (br_f (by decide) (br_f (by decide) (br_f (by decide) (br_f (by decide) (br_f (by decide) (br_f (by decide) (br_f (by decide) (br_f (by decide) (br_t rfl (⟨hv, nm_e ⟨hv, br_t hk7 ⟨hv, nm_e hp⟩⟩⟩)))))))))))⟩
  · show upd ct s _ s = upd lf s _ s ∧ (_ → upd ls s _ s = upd la s _ s)
    rw [pk_us, pk_us, pk_us, pk_us]; exact ⟨rfl, fun _ => rfl⟩
theorem cm_9 (hkd : ∀ t, t < S → (kd t).toNatClampNeg ≤ 16) (hS : S ≤ 8) (hL : L ≤ 150) (hs : s < S) (hv : vp_in x 8) (hx : x.toNatClampNeg = s) (h : dd_D S L m le kd nu g e r b 1 (s + 1) q sn ya bg ct ls hd hk hc lf la pc yb yh yk ho) (hk0 : kd s = nI 9) : ∃ (act : Int32) (u1 : SX) (v1 : SY), (∀ post : SX → Prop, post u1 → wpX_elementCame post (nI L, pn, wp, nI m, nI S, se, fl, nI q, 0, nI s, 1, y, rs, sn, it, le, pe, op, kd, nu, co, cl, ap, rd, si, bg, ct, ls, hd, hk, hc, vl) x y) ∧ (∀ post : Int32 → SY → Prop, post act v1 → wpY_came post (nI L, nI m, nI S, wy, nI q, ya, se, fl, y, vt, ot, ra, br, oc, it, le, tk, cn, kd, nu, lf, la, pc, yb, yh, yk, ho, ap, rd, si, vs, os) x) ∧ rr_N pn wp se wy ra it le pe op kd nu co cl si tk cn L S m (rn_P S g b 1 (s + 1)) (s + 1) act u1 v1 := by
  have hkc : (kd s).toNatClampNeg = 9 := by rw [hk0]; exact nI_clamp (by omega)
  refine ⟨1, (nI L, pn, wp, nI m, nI S, se, fl, nI q, 0, nI (s + 1), 1, y, rs, sn, it, le, pe, op, kd, nu, co, cl, ap, rd, si, bg, ct, ls, hd, hk, hc, vl), (nI L, nI m, nI S, wy, nI q, ya, se, fl, y, vt, ot, ra, br, oc, it, le, tk, cn, kd, nu, lf, la, pc, yb, yh, yk, ho, ap, rd, si, vs, os), fun post hp => ?_, fun post hp => ?_, md_give y hkd hS hs h (k := 9) (r1 := r s) fr_id (Or.inr rfl) (Or.inr ⟨rfl, Nat.le_refl _⟩) (Nat.le_refl _) h.1 hkc (fun P' hP => ?_)⟩
  · subst hx
    exact ⟨hv, nm_r hk0 (br_f (by decide) (br_f (by decide) (br_f (by decide) (br_f (by decide) (br_f (by decide) (br_f (by decide) (br_f (by decide) (br_f (by decide) (br_f (by decide) (br_f (by decide) (br_f (by decide) (br_t rfl (xr_give hp)))))))))))))⟩
  · subst hx
    exact ⟨hv, nm_r hk0 (br_f (by decide) (br_f (by decide) (br_f (by decide) (br_f (by decide) (br_f (by decide) (br_f (by decide) (br_f (by decide) (br_f (by decide) (br_f (by decide) (br_f (by decide) (br_f (by decide) (br_t rfl (hp)))))))))))))⟩
  · exact dd_mono (k := 9) (by omega) (Nat.le_of_lt hP) (dd_get h hs hk0 (by omega))
end
end
section
theorem sr_least (a : Nat → Int32) (y : Int32) : ∀ n : Nat, (∀ i, i < n → ¬ a i = y) ∨ ∃ i0 : Nat, i0 < n ∧ a i0 = y ∧ ∀ i, i < i0 → ¬ a i = y
  | 0 => Or.inl (fun i hi => absurd hi (by omega))
  | n + 1 => by
    rcases sr_least a y n with h | ⟨i0, h1, h2, h3⟩
    · by_cases e : a n = y
      · exact Or.inr ⟨n, by omega, e, h⟩
      · refine Or.inl (fun i hi => ?_)
        by_cases ei : i = n
        · rw [ei]; exact e
        · exact h i (by omega)
    · exact Or.inr ⟨i0, by omega, h2, h3⟩
section
variable {lm pn wp sr sc se fl sp pt sg el rs sn wy ya vv vt ot ra br : Int32} {en oc : Int64} {it le pe op kd nu co cl ap rd si bg ct ls hd hk hc vl tk cn lf la pc yb yh yk ho vs os : Nat → Int32}
variable {bg' ct' ls' hd' hk' hc' lf' la' pc' yb' yh' yk' ho' : Nat → Int32} {S L m q s sgn k : Nat} {g e r b : Nat → Nat} {x y : Int32}
theorem cm_10 (hkd : ∀ t, t < S → (kd t).toNatClampNeg ≤ 16) (hS : S ≤ 8) (hL : L ≤ 150) (hs : s < S) (hv : vp_in x 8) (hx : x.toNatClampNeg = s) (h : dd_D S L m le kd nu g e r b 1 (s + 1) q sn ya bg ct ls hd hk hc lf la pc yb yh yk ho) (hk0 : kd s = nI 10) (hE : rl_Ex co cl tk cn s) {mm n : Nat} (hmm : mm < 3) (hn : n ≤ 24) (hnu : nu s = nI mm) (hle : le mm = nI n) : ∃ (act : Int32) (u1 : SX) (v1 : SY), (∀ post : SX → Prop, post u1 → wpX_elementCame post (nI L, pn, wp, nI m, nI S, se, fl, nI q, 0, nI s, 1, y, rs, sn, it, le, pe, op, kd, nu, co, cl, ap, rd, si, bg, ct, ls, hd, hk, hc, vl) x y) ∧ (∀ post : Int32 → SY → Prop, post act v1 → wpY_came post (nI L, nI m, nI S, wy, nI q, ya, se, fl, y, vt, ot, ra, br, oc, it, le, tk, cn, kd, nu, lf, la, pc, yb, yh, yk, ho, ap, rd, si, vs, os) x) ∧ rr_N pn wp se wy ra it le pe op kd nu co cl si tk cn L S m (rn_P S g b 1 (s + 1)) (s + 1) act u1 v1 := by
  have hkc : (kd s).toNatClampNeg = 10 := by rw [hk0]; exact nI_clamp (by omega)
  have hPb := dd_bound hS hL (by omega) h
  obtain ⟨j, hj, hyp, hxc⟩ := dd_get h hs hk0 (by omega)
  rw [zl_eq hnu hmm hle hn] at hxc
  have hmi : vp_in (nI mm) 3 := vp_in_nI hmm (by omega)
  have hmc : (nI mm).toNatClampNeg = mm := nI_clamp (by omega)
  have hlm : le (nI mm).toNatClampNeg = nI n := by rw [hmc]; exact hle
  have hy1 : pc s + 1 = nI (j + 1) := by rw [hyp, nI_1]
  by_cases hjn : j < n
  · rw [Nat.min_eq_left (by omega)] at hxc
    have hlt : ct s < nI n := by rw [hxc]; exact nI_lt hjn (by omega)
    by_cases hq : q < L
    · rcases rn_apx (pn := pn) (wp := wp) (se := se) (fl := fl) (sn := sn) (it := it) (le := le) (pe := pe) (op := op) (kd := kd) (nu := nu) (co := co) (cl := cl) (ap := ap) (si := si) (bg := bg) (ls := ls) (hd := hd) (hk := hk) (hc := hc) (vl := vl) (wy := wy) (ya := ya) (vt := vt) (ot := ot) (ra := ra) (br := br) (oc := oc) (tk := tk) (cn := cn) (lf := lf) (la := la) (yb := yb) (yh := yh) (yk := yk) (ho := ho) (vs := vs) (os := os) (sr := nI m) (sc := nI S) (en := 0) (pt := nI s) (sg := 1) (el := y) (vv := it (24 * mm + j)) (rs := it (24 * mm + j)) (rd := upd rd mm (rd mm + 1)) (ct := upd ct s (ct s + 1)) (pc := upd pc s (nI (j + 1))) (p := q + 1) hL (by omega) hv hx hE y (it (24 * mm + j)) with ⟨oe, p', fl', vv', vt', ot', br', ap', vl', vs', os', w1, w2, w3⟩ | ⟨hq2, v, vt', ot', br', vl', vs', os', w2, w3⟩
      · refine ⟨3, (nI L, pn, wp, nI m, nI S, se, fl', nI p', oe, nI s, 1, y, it (24 * mm + j), sn, it, le, pe, op, kd, nu, co, cl, ap', upd rd mm (rd mm + 1), si, bg, upd ct s (ct s + 1), ls, hd, hk, hc, vl'), (nI L, nI m, nI S, wy, nI p', ya, se, fl', vv', vt', ot', ra, br', oe, it, le, tk, cn, kd, nu, lf, la, upd pc s (nI (j + 1)), yb, yh, yk, ho, ap', upd rd mm (rd mm + 1), si, vs', os'), fun post hp => ?_, fun post hp => ?_, md_out w1⟩
        · subst hx
          refine ⟨hv, nm_r hk0 (br_f (by decide) (br_f (by decide) (br_f (by decide) (br_f (by decide) (br_f (by decide) (br_f (by decide) (br_f (by decide) (br_f (by decide) (br_f (by decide) (br_f (by decide) (br_f (by decide) (br_f (by decide) (br_t rfl (⟨hv, nm_r hnu ⟨hv, hmi, br_t (by rw [hlm]; exact hlt) ⟨hv, ?_⟩⟩⟩))))))))))))))⟩
          rw [hxc]
          refine xr_rd1 hL hq hmm (by omega) ?_
          rw [hxc] at w2 hp
          exact br_f (by decide) ⟨hv, hv, nm_r (by rw [hxc]) (w2 _ (br_t rfl hp))⟩
        · subst hx
          refine ⟨hv, nm_r hk0 (br_f (by decide) (br_f (by decide) (br_f (by decide) (br_f (by decide) (br_f (by decide) (br_f (by decide) (br_f (by decide) (br_f (by decide) (br_f (by decide) (br_f (by decide) (br_f (by decide) (br_f (by decide) (br_t rfl (⟨hv, hv, hv, nm_r (by rw [hy1]) ?_⟩))))))))))))))⟩
          rw [hnu, hyp]
          refine yr_ft1 hL hq hmm hn hle hjn ?_
          exact br_t rfl (w3 _ (br_t rfl hp))
      · refine ⟨1, (nI L, pn, wp, nI m, nI S, se, fl, nI (q + 1 + 1), 0, nI (s + 1), 1, v, v, sn, it, le, pe, op, kd, nu, co, cl, upd ap s (ap s + 1), upd rd mm (rd mm + 1), si, bg, upd ct s (ct s + 1), ls, hd, hk, hc, vl'), (nI L, nI m, nI S, wy, nI (q + 1 + 1), ya, se, fl, v, vt', ot', ra, br', oc, it, le, tk, cn, kd, nu, lf, la, upd pc s (nI (j + 1)), yb, yh, yk, ho, upd ap s (ap s + 1), upd rd mm (rd mm + 1), si, vs', os'), fun post hp => ?_, fun post hp => ?_, md_give v hkd hS hs h (k := 10) (r1 := r s) ⟨fun t ht => by simp [pk_un ht], fun i hi => ⟨rfl, rfl⟩, fun i hi => ⟨rfl, rfl⟩⟩ (Or.inr rfl) (Or.inr ⟨rfl, Nat.le_refl _⟩) (by omega) (by omega) hkc (fun P' hP => ?_)⟩
        · subst hx
          refine ⟨hv, nm_r hk0 (br_f (by decide) (br_f (by decide) (br_f (by decide) (br_f (by decide) (br_f (by decide) (br_f (by decide) (br_f (by decide) (br_f (by decide) (br_f (by decide) (br_f (by decide) (br_f (by decide) (br_f (by decide) (br_t rfl (⟨hv, nm_r hnu ⟨hv, hmi, br_t (by rw [hlm]; exact hlt) ⟨hv, ?_⟩⟩⟩))))))))))))))⟩
          rw [hxc]
          refine xr_rd1 hL hq hmm (by omega) ?_
          rw [hxc] at w2 hp
          exact br_f (by decide) ⟨hv, hv, nm_r (by rw [hxc]) (w2 _ (br_f (by decide) (xr_give hp)))⟩
        · subst hx
          refine ⟨hv, nm_r hk0 (br_f (by decide) (br_f (by decide) (br_f (by decide) (br_f (by decide) (br_f (by decide) (br_f (by decide) (br_f (by decide) (br_f (by decide) (br_f (by decide) (br_f (by decide) (br_f (by decide) (br_f (by decide) (br_t rfl (⟨hv, hv, hv, nm_r (by rw [hy1]) ?_⟩))))))))))))))⟩
          rw [hnu, hyp]
          refine yr_ft1 hL hq hmm hn hle hjn ?_
          exact br_t rfl (w3 _ (br_f (by decide) hp))
        · refine ⟨j + 1, by omega, pk_us, ?_⟩
          rw [pk_us, hxc, nI_1, zl_eq hnu hmm hle hn, Nat.min_eq_left (by omega)]
    · have : L = q := by have := h.1; omega
      subst this
      refine ⟨3, (nI L, pn, wp, nI m, nI S, se, fl, nI L, 9000000000000000001, nI s, 1, y, rs, sn, it, le, pe, op, kd, nu, co, cl, ap, rd, si, bg, ct, ls, hd, hk, hc, vl), (nI L, nI m, nI S, wy, nI L, ya, se, fl, y, vt, ot, ra, br, 9000000000000000001, it, le, tk, cn, kd, nu, lf, la, upd pc s (nI (j + 1)), yb, yh, yk, ho, ap, rd, si, vs, os), fun post hp => ?_, fun post hp => ?_, md_out (oe := 9000000000000000001) (by decide)⟩
      · subst hx
        refine ⟨hv, nm_r hk0 (br_f (by decide) (br_f (by decide) (br_f (by decide) (br_f (by decide) (br_f (by decide) (br_f (by decide) (br_f (by decide) (br_f (by decide) (br_f (by decide) (br_f (by decide) (br_f (by decide) (br_f (by decide) (br_t rfl (⟨hv, nm_r hnu ⟨hv, hmi, br_t (by rw [hlm]; exact hlt) ⟨hv, xr_rd0 ?_⟩⟩⟩))))))))))))))⟩
        exact br_t rfl hp
      · subst hx
        refine ⟨hv, nm_r hk0 (br_f (by decide) (br_f (by decide) (br_f (by decide) (br_f (by decide) (br_f (by decide) (br_f (by decide) (br_f (by decide) (br_f (by decide) (br_f (by decide) (br_f (by decide) (br_f (by decide) (br_f (by decide) (br_t rfl (⟨hv, hv, hv, nm_r (by rw [hy1]) ?_⟩))))))))))))))⟩
        rw [hnu, hyp]
        refine yr_ft0 hmm hn hle hjn ?_
        exact br_f (by decide) hp
  · rw [Nat.min_eq_right (by omega)] at hxc
    have hlt : ¬ ct s < nI n := by rw [hxc]; exact Int32.lt_irrefl
    refine ⟨0, (nI L, pn, wp, nI m, nI S, se, fl, nI q, 0, nI (s + 1), 2, y, rs, sn, it, le, pe, op, kd, nu, co, cl, ap, rd, si, bg, ct, ls, hd, hk, hc, vl), (nI L, nI m, nI S, wy, nI q, ya, se, fl, y, vt, ot, ra, br, oc, it, le, tk, cn, kd, nu, lf, la, upd pc s (nI (j + 1)), yb, yh, yk, ho, ap, rd, si, vs, os), fun post hp => ?_, fun post hp => ?_, md_end hkd hS hs h (k := 10) ⟨fun t ht => by simp [pk_un ht], fun i hi => ⟨rfl, rfl⟩, fun i hi => ⟨rfl, rfl⟩⟩ (Or.inr (Or.inl rfl)) (Nat.le_refl _) h.1 hkc (fun P' hP => ?_)⟩
    · subst hx
      exact ⟨hv, nm_r hk0 (br_f (by decide) (br_f (by decide) (br_f (by decide) (br_f (by decide) (br_f (by decide) (br_f (by decide) (br_f (by decide) (br_f (by decide) (br_f (by decide) (br_f (by decide) (br_f (by decide) (br_f (by decide) (br_t rfl (⟨hv, nm_r hnu ⟨hv, hmi, br_f (by rw [hlm]; exact hlt) (xr_end hp)⟩⟩))))))))))))))⟩
    · subst hx
      refine ⟨hv, nm_r hk0 (br_f (by decide) (br_f (by decide) (br_f (by decide) (br_f (by decide) (br_f (by decide) (br_f (by decide) (br_f (by decide) (br_f (by decide) (br_f (by decide) (br_f (by decide) (br_f (by decide) (br_f (by decide) (br_t rfl (⟨hv, hv, hv, nm_r (by rw [hy1]) ?_⟩))))))))))))))⟩
      rw [hnu, hyp]
      refine yr_ftE hmm hn hle (by omega) (by omega) ?_
      exact br_f (by decide) hp
    · refine ⟨j + 1, by omega, pk_us, ?_⟩
      rw [hxc, zl_eq hnu hmm hle hn, Nat.min_eq_right (by omega)]
theorem cm_12 (hkd : ∀ t, t < S → (kd t).toNatClampNeg ≤ 16) (hS : S ≤ 8) (hL : L ≤ 150) (hs : s < S) (hv : vp_in x 8) (hx : x.toNatClampNeg = s) (h : dd_D S L m le kd nu g e r b 1 (s + 1) q sn ya bg ct ls hd hk hc lf la pc yb yh yk ho) (hk0 : kd s = nI 12) (hE : rl_Ex co cl tk cn s) : ∃ (act : Int32) (u1 : SX) (v1 : SY), (∀ post : SX → Prop, post u1 → wpX_elementCame post (nI L, pn, wp, nI m, nI S, se, fl, nI q, 0, nI s, 1, y, rs, sn, it, le, pe, op, kd, nu, co, cl, ap, rd, si, bg, ct, ls, hd, hk, hc, vl) x y) ∧ (∀ post : Int32 → SY → Prop, post act v1 → wpY_came post (nI L, nI m, nI S, wy, nI q, ya, se, fl, y, vt, ot, ra, br, oc, it, le, tk, cn, kd, nu, lf, la, pc, yb, yh, yk, ho, ap, rd, si, vs, os) x) ∧ rr_N pn wp se wy ra it le pe op kd nu co cl si tk cn L S m (rn_P S g b 1 (s + 1)) (s + 1) act u1 v1 := by
  have hkc : (kd s).toNatClampNeg = 12 := by rw [hk0]; exact nI_clamp (by omega)
  obtain ⟨hbb, h01, hll⟩ := dd_get h hs hk0 (by omega)
  by_cases hb1 : bg s = 0
  · refine ⟨1, (nI L, pn, wp, nI m, nI S, se, fl, nI q, 0, nI (s + 1), 1, y, rs, sn, it, le, pe, op, kd, nu, co, cl, ap, rd, si, upd bg s (vp_nar .boolean 1), ct, upd ls s y, hd, hk, hc, vl), (nI L, nI m, nI S, wy, nI q, ya, se, fl, y, vt, ot, ra, br, oc, it, le, tk, cn, kd, nu, lf, upd la s y, pc, upd yb s (vp_nar .boolean 1), yh, yk, ho, ap, rd, si, vs, os), fun post hp => ?_, fun post hp => ?_, md_give y hkd hS hs h (k := 12) (r1 := r s) ⟨fun t ht => by simp [pk_un ht], fun i hi => ⟨rfl, rfl⟩, fun i hi => ⟨rfl, rfl⟩⟩ (Or.inr rfl) (Or.inr ⟨rfl, Nat.le_refl _⟩) (Nat.le_refl _) h.1 hkc (fun P' hP => ?_)⟩
    · subst hx
      exact ⟨hv, nm_r hk0 (br_f (by decide) (br_f (by decide) (br_f (by decide) (br_f (by decide) (br_f (by decide) (br_f (by decide) (br_f (by decide) (br_f (by decide) (br_f (by decide) (br_f (by decide) (br_f (by decide) (br_f (by decide) (br_f (by decide) (br_f (by decide) (br_t rfl (⟨hv, br_t hb1 ⟨hv, nm_e ⟨hv, nm_e (xr_give hp)⟩⟩⟩))))))))))))))))⟩
    · subst hx
      exact ⟨hv, nm_r hk0 (br_f (by decide) (br_t (by decide) (⟨hv, nm_r hk0 (br_f (by decide) (br_f (by decide) (br_t rfl (⟨hv, br_t (by rw [← hbb]; exact hb1) ⟨hv, nm_e ⟨hv, nm_e hp⟩⟩⟩))))⟩)))⟩
    · refine ⟨by rw [pk_us, pk_us], Or.inr (by rw [pk_us, vn_1]), fun _ => by rw [pk_us, pk_us]⟩
  · have hbe : bg s = 1 := h01.resolve_left hb1
    rcases rn_apx (pn := pn) (wp := wp) (se := se) (fl := fl) (rs := rs) (sn := sn) (it := it) (le := le) (pe := pe) (op := op) (kd := kd) (nu := nu) (co := co) (cl := cl) (ap := ap) (rd := rd) (si := si) (bg := bg) (ct := ct) (ls := ls) (hd := hd) (hk := hk) (hc := hc) (vl := vl) (wy := wy) (ya := ya) (vt := vt) (ot := ot) (ra := ra) (br := br) (oc := oc) (tk := tk) (cn := cn) (lf := lf) (la := la) (pc := pc) (yb := yb) (yh := yh) (yk := yk) (ho := ho) (vs := vs) (os := os) (sr := nI m) (sc := nI S) (en := 0) (pt := nI s) (sg := 1) (el := y) (vv := y) hL h.1 hv hx hE y (ls s) with ⟨oe, p', fl', vv', vt', ot', br', ap', vl', vs', os', w1, w2, w3⟩ | ⟨hq, v, vt', ot', br', vl', vs', os', w2, w3⟩
    · refine ⟨3, (nI L, pn, wp, nI m, nI S, se, fl', nI p', oe, nI s, 1, y, rs, sn, it, le, pe, op, kd, nu, co, cl, ap', rd, si, bg, ct, ls, hd, hk, hc, vl'), (nI L, nI m, nI S, wy, nI p', ya, se, fl', vv', vt', ot', ra, br', oe, it, le, tk, cn, kd, nu, lf, la, pc, yb, yh, yk, ho, ap', rd, si, vs', os'), fun post hp => ?_, fun post hp => ?_, md_out w1⟩
      · subst hx
        exact ⟨hv, nm_r hk0 (br_f (by decide) (br_f (by decide) (br_f (by decide) (br_f (by decide) (br_f (by decide) (br_f (by decide) (br_f (by decide) (br_f (by decide) (br_f (by decide) (br_f (by decide) (br_f (by decide) (br_f (by decide) (br_f (by decide) (br_f (by decide) (br_t rfl (⟨hv, br_f hb1 ⟨hv, w2 _ (br_t rfl hp)⟩⟩))))))))))))))))⟩
      · subst hx
        rw [hll hb1] at w3
        exact ⟨hv, nm_r hk0 (br_f (by decide) (br_t (by decide) (⟨hv, nm_r hk0 (br_f (by decide) (br_f (by decide) (br_t rfl (⟨hv, br_f (by rw [← hbb]; exact hb1) ⟨hv, w3 _ (br_t rfl hp)⟩⟩))))⟩)))⟩
    · refine ⟨1, (nI L, pn, wp, nI m, nI S, se, fl, nI (q + 1), 0, nI (s + 1), 1, v, v, sn, it, le, pe, op, kd, nu, co, cl, upd ap s (ap s + 1), rd, si, bg, ct, upd ls s v, hd, hk, hc, vl'), (nI L, nI m, nI S, wy, nI (q + 1), ya, se, fl, v, vt', ot', ra, br', oc, it, le, tk, cn, kd, nu, lf, upd la s v, pc, upd yb s (vp_nar .boolean 1), yh, yk, ho, upd ap s (ap s + 1), rd, si, vs', os'), fun post hp => ?_, fun post hp => ?_, md_give v hkd hS hs h (k := 12) (r1 := r s) ⟨fun t ht => by simp [pk_un ht], fun i hi => ⟨rfl, rfl⟩, fun i hi => ⟨rfl, rfl⟩⟩ (Or.inr rfl) (Or.inr ⟨rfl, Nat.le_refl _⟩) (by omega) (by omega) hkc (fun P' hP => ?_)⟩
      · subst hx
        exact ⟨hv, nm_r hk0 (br_f (by decide) (br_f (by decide) (br_f (by decide) (br_f (by decide) (br_f (by decide) (br_f (by decide) (br_f (by decide) (br_f (by decide) (br_f (by decide) (br_f (by decide) (br_f (by decide) (br_f (by decide) (br_f (by decide) (br_f (by decide) (br_t rfl (⟨hv, br_f hb1 ⟨hv, w2 _ (br_f (by decide) ⟨hv, nm_e (xr_give hp)⟩)⟩⟩))))))))))))))))⟩
      · subst hx
        rw [hll hb1] at w3
        exact ⟨hv, nm_r hk0 (br_f (by decide) (br_t (by decide) (⟨hv, nm_r hk0 (br_f (by decide) (br_f (by decide) (br_t rfl (⟨hv, br_f (by rw [← hbb]; exact hb1) ⟨hv, w3 _ (br_f (by decide) ⟨hv, nm_e ⟨hv, nm_e hp⟩⟩)⟩⟩))))⟩)))⟩
      · refine ⟨by rw [pk_us, vn_1]; exact hbe, Or.inr hbe, fun _ => by rw [pk_us, pk_us]⟩
theorem cm_13 (hkd : ∀ t, t < S → (kd t).toNatClampNeg ≤ 16) (hS : S ≤ 8) (hL : L ≤ 150) (hs : s < S) (hv : vp_in x 8) (hx : x.toNatClampNeg = s) (h : dd_D S L m le kd nu g e r b 1 (s + 1) q sn ya bg ct ls hd hk hc lf la pc yb yh yk ho) (hk0 : kd s = nI 13) : ∃ (act : Int32) (u1 : SX) (v1 : SY), (∀ post : SX → Prop, post u1 → wpX_elementCame post (nI L, pn, wp, nI m, nI S, se, fl, nI q, 0, nI s, 1, y, rs, sn, it, le, pe, op, kd, nu, co, cl, ap, rd, si, bg, ct, ls, hd, hk, hc, vl) x y) ∧ (∀ post : Int32 → SY → Prop, post act v1 → wpY_came post (nI L, nI m, nI S, wy, nI q, ya, se, fl, y, vt, ot, ra, br, oc, it, le, tk, cn, kd, nu, lf, la, pc, yb, yh, yk, ho, ap, rd, si, vs, os) x) ∧ rr_N pn wp se wy ra it le pe op kd nu co cl si tk cn L S m (rn_P S g b 1 (s + 1)) (s + 1) act u1 v1 := by
  have hkc : (kd s).toNatClampNeg = 13 := by rw [hk0]; exact nI_clamp (by omega)
  obtain ⟨hbb, h01, hll⟩ := dd_get h hs hk0 (by omega)
  by_cases hb1 : bg s = 0
  · refine ⟨2, (nI L, pn, wp, nI m, nI S, se, fl, nI q, 0, rn_aI s, 0, y, rs, sn, it, le, pe, op, kd, nu, co, cl, ap, rd, si, upd bg s (vp_nar .boolean 1), ct, upd ls s y, hd, hk, hc, vl), (nI L, nI m, nI S, wy, nI q, ya, se, fl, y - la s, vt, ot, ra, br, oc, it, le, tk, cn, kd, nu, lf, upd la s y, pc, upd yb s (vp_nar .boolean 1), yh, yk, ho, ap, rd, si, vs, os), fun post hp => ?_, fun post hp => ?_, md_ask hkd hS hs h (k := 13) (r1 := r s) ⟨fun t ht => by simp [pk_un ht], fun i hi => ⟨rfl, rfl⟩, fun i hi => ⟨rfl, rfl⟩⟩ (Or.inr rfl) (Or.inl (Nat.le_refl _)) (fun z => absurd z (by simp [rn_cl])) (Nat.le_refl _) h.1 hkc (fun P' hP => ?_)⟩
    · subst hx
      exact ⟨hv, nm_r hk0 (br_f (by decide) (br_f (by decide) (br_f (by decide) (br_f (by decide) (br_f (by decide) (br_f (by decide) (br_f (by decide) (br_f (by decide) (br_f (by decide) (br_f (by decide) (br_f (by decide) (br_f (by decide) (br_f (by decide) (br_f (by decide) (br_f (by decide) (br_t rfl (⟨hv, nm_e ⟨hv, nm_e ⟨hv, br_t hb1 ⟨hv, nm_e (xr_ask hp)⟩⟩⟩⟩)))))))))))))))))⟩
    · subst hx
      exact ⟨hv, nm_r hk0 (br_f (by decide) (br_t (by decide) (⟨hv, nm_r hk0 (br_f (by decide) (br_f (by decide) (br_f (by decide) (br_t rfl (⟨hv, br_t (by rw [← hbb]; exact hb1) ⟨hv, nm_e ⟨hv, nm_e ⟨hv, nm_e (br_f (by decide) hp)⟩⟩⟩⟩)))))⟩)))⟩
    · refine ⟨by rw [pk_us, pk_us], Or.inr (by rw [pk_us, vn_1]), fun _ => by rw [pk_us, pk_us]⟩
  · have hbe : bg s = 1 := h01.resolve_left hb1
    refine ⟨1, (nI L, pn, wp, nI m, nI S, se, fl, nI q, 0, nI (s + 1), 1, y - ls s, rs, sn, it, le, pe, op, kd, nu, co, cl, ap, rd, si, bg, ct, upd ls s y, hd, hk, hc, vl), (nI L, nI m, nI S, wy, nI q, ya, se, fl, y - ls s, vt, ot, ra, br, oc, it, le, tk, cn, kd, nu, lf, upd la s y, pc, upd yb s (vp_nar .boolean 1), yh, yk, ho, ap, rd, si, vs, os), fun post hp => ?_, fun post hp => ?_, md_give _ hkd hS hs h (k := 13) (r1 := r s) ⟨fun t ht => by simp [pk_un ht], fun i hi => ⟨rfl, rfl⟩, fun i hi => ⟨rfl, rfl⟩⟩ (Or.inr rfl) (Or.inr ⟨rfl, Nat.le_refl _⟩) (Nat.le_refl _) h.1 hkc (fun P' hP => ?_)⟩
    · subst hx
      exact ⟨hv, nm_r hk0 (br_f (by decide) (br_f (by decide) (br_f (by decide) (br_f (by decide) (br_f (by decide) (br_f (by decide) (br_f (by decide) (br_f (by decide) (br_f (by decide) (br_f (by decide) (br_f (by decide) (br_f (by decide) (br_f (by decide) (br_f (by decide) (br_f (by decide) (br_t rfl (⟨hv, nm_e ⟨hv, nm_e ⟨hv, br_f hb1 (xr_give hp)⟩⟩⟩)))))))))))))))))⟩
    · subst hx
      exact ⟨hv, nm_r hk0 (br_f (by decide) (br_t (by decide) (⟨hv, nm_r hk0 (br_f (by decide) (br_f (by decide) (br_f (by decide) (br_t rfl (⟨hv, br_f (by rw [← hbb]; exact hb1) ⟨hv, nm_r (by rw [hll hb1]) ⟨hv, nm_e ⟨hv, nm_e (br_t rfl hp)⟩⟩⟩⟩)))))⟩)))⟩
    · refine ⟨by rw [pk_us, vn_1]; exact hbe, Or.inr hbe, fun _ => by rw [pk_us, pk_us]⟩
theorem xr_hold (hv : vp_in x 8) (hx : x.toNatClampNeg = s) {n : Nat} (hn : n < 150) (hhc : hc s = nI n) (key : Int32) {post : SX → Prop} (hp : post (lm, pn, wp, sr, sc, se, fl, sp, en, pt, sg, el, rs, sn, it, le, pe, op, kd, nu, co, cl, ap, rd, si, bg, ct, ls, upd hd (150 * s + n) y, upd hk (150 * s + n) key, upd hc s (nI (n + 1)), vl)) : wpX_hold post (lm, pn, wp, sr, sc, se, fl, sp, en, pt, sg, el, rs, sn, it, le, pe, op, kd, nu, co, cl, ap, rd, si, bg, ct, ls, hd, hk, hc, vl) x y key := by
  subst hx
  have h8 := (vx_n hv).2
  have hin : vp_in (nI (150 * x.toNatClampNeg + n)) 1200 := vp_in_nI (by omega) (by omega)
  have hcc : (nI (150 * x.toNatClampNeg + n)).toNatClampNeg = 150 * x.toNatClampNeg + n := nI_clamp (by omega)
  refine ⟨hv, br_f (by rw [hhc]; exact nI_ge (b := 150) hn (by decide)) ⟨hv, nm_r (e' := nI (150 * x.toNatClampNeg + n)) (by rw [hhc]; exact vx_150 hv n) ⟨hin, nm_r (by rw [hcc]) ⟨hin, nm_r (by rw [hcc]) ⟨hv, hv, nm_r (by rw [hhc, nI_1]) hp⟩⟩⟩⟩⟩
theorem yr_hold (hv : vp_in x 8) (hx : x.toNatClampNeg = s) {n : Nat} (hn : n < 150) (hho : ho s = nI n) (key : Int32) {post : SY → Prop} (hp : post (lm, sr, sc, wy, sp, ya, se, fl, vv, vt, ot, ra, br, oc, it, le, tk, cn, kd, nu, lf, la, pc, yb, upd yh (160 * s + n) y, upd yk (160 * s + n) key, upd ho s (nI (n + 1)), ap, rd, si, vs, os)) : wpY_hold post (lm, sr, sc, wy, sp, ya, se, fl, vv, vt, ot, ra, br, oc, it, le, tk, cn, kd, nu, lf, la, pc, yb, yh, yk, ho, ap, rd, si, vs, os) x y key := by
  subst hx
  have h8 := (vx_n hv).2
  have e1 : 160 * x + ho x.toNatClampNeg = nI (160 * x.toNatClampNeg + n) := by rw [hho, vx_160 hv, nI_add]
  have hin : vp_in (160 * x + ho x.toNatClampNeg) 1280 := by rw [e1]; exact vp_in_nI (by omega) (by omega)
  have hcc : (160 * x + ho x.toNatClampNeg).toNatClampNeg = 160 * x.toNatClampNeg + n := by rw [e1, nI_clamp (by omega)]
  refine ⟨hv, hin, nm_r (by rw [hcc]) ⟨hv, hv, nm_r (by rw [hho, nI_1]) ⟨hin, nm_r (by rw [hcc]) hp⟩⟩⟩
theorem yr_find0 (hv : vp_in x 8) (hx : x.toNatClampNeg = s) {n : Nat} (hn : n ≤ 150) (hho : ho s = nI n) (hno : ∀ i, i < n → ¬ yk (160 * s + i) = y) {post : Int32 → Prop} (hp : post (-1)) : wpY_find post (lm, sr, sc, wy, sp, ya, se, fl, vv, vt, ot, ra, br, oc, it, le, tk, cn, kd, nu, lf, la, pc, yb, yh, yk, ho, ap, rd, si, vs, os) x y := by
  subst hx
  have h8 := (vx_n hv).2
  have key : ∀ (d i nf : Nat), i + d = n → d < nf → wY_find_2 post x y lm sr sc wy sp ya se fl vv vt ot ra br oc it le tk cn kd nu lf la pc yb yh yk ho ap rd si vs os nf (nI i) := by
    intro d
    induction d with
    | zero =>
      intro i nf hi hf
      obtain ⟨f, rfl⟩ : ∃ f, nf = f + 1 := ⟨nf - 1, by omega⟩
      exact ⟨hv, br_t (by rw [hho, nI_leI (by omega) (by omega)]; omega) hp⟩
    | succ d IH =>
      intro i nf hi hf
      obtain ⟨f, rfl⟩ : ∃ f, nf = f + 1 := ⟨nf - 1, by omega⟩
      have e1 : 160 * x + nI i = nI (160 * x.toNatClampNeg + i) := by rw [vx_160 hv, nI_add]
      refine ⟨hv, br_f (by rw [hho]; exact nI_ge (by omega) (by omega)) ⟨?_, br_f ?_ (nm_r (nI_1 _) (IH (i + 1) f (by omega) (by omega)))⟩⟩
      · rw [e1]; exact vp_in_nI (by omega) (by omega)
      · rw [e1, nI_clamp (by omega)]; exact hno i (by omega)
  exact ⟨_, key n 0 _ (by omega) (Nat.lt_succ_self _)⟩
theorem yr_find1 (hv : vp_in x 8) (hx : x.toNatClampNeg = s) {n i0 : Nat} (hn : n ≤ 150) (hho : ho s = nI n) (hi0 : i0 < n) (hyes : yk (160 * s + i0) = y) (hno : ∀ i, i < i0 → ¬ yk (160 * s + i) = y) {post : Int32 → Prop} (hp : post (nI i0)) : wpY_find post (lm, sr, sc, wy, sp, ya, se, fl, vv, vt, ot, ra, br, oc, it, le, tk, cn, kd, nu, lf, la, pc, yb, yh, yk, ho, ap, rd, si, vs, os) x y := by
  subst hx
  have h8 := (vx_n hv).2
  have key : ∀ (d i nf : Nat), i + d = i0 → d < nf → wY_find_2 post x y lm sr sc wy sp ya se fl vv vt ot ra br oc it le tk cn kd nu lf la pc yb yh yk ho ap rd si vs os nf (nI i) := by
    intro d
    induction d with
    | zero =>
      intro i nf hi hf
      obtain ⟨f, rfl⟩ : ∃ f, nf = f + 1 := ⟨nf - 1, by omega⟩
      have e1 : 160 * x + nI i = nI (160 * x.toNatClampNeg + i) := by rw [vx_160 hv, nI_add]
      have : i = i0 := by omega
      subst this
      refine ⟨hv, br_f (by rw [hho]; exact nI_ge (by omega) (by omega)) ⟨?_, br_t ?_ hp⟩⟩
      · rw [e1]; exact vp_in_nI (by omega) (by omega)
      · rw [e1, nI_clamp (by omega)]; exact hyes
    | succ d IH =>
      intro i nf hi hf
      obtain ⟨f, rfl⟩ : ∃ f, nf = f + 1 := ⟨nf - 1, by omega⟩
      have e1 : 160 * x + nI i = nI (160 * x.toNatClampNeg + i) := by rw [vx_160 hv, nI_add]
      refine ⟨hv, br_f (by rw [hho]; exact nI_ge (by omega) (by omega)) ⟨?_, br_f ?_ (nm_r (nI_1 _) (IH (i + 1) f (by omega) (by omega)))⟩⟩
      · rw [e1]; exact vp_in_nI (by omega) (by omega)
      · rw [e1, nI_clamp (by omega)]; exact hno i (by omega)
  exact ⟨_, key i0 0 _ (by omega) (Nat.lt_succ_self _)⟩
theorem cm_8 (hkd : ∀ t, t < S → (kd t).toNatClampNeg ≤ 16) (hS : S ≤ 8) (hL : L ≤ 150) (hs : s < S) (hv : vp_in x 8) (hx : x.toNatClampNeg = s) (h : dd_D S L m le kd nu g e r b 1 (s + 1) q sn ya bg ct ls hd hk hc lf la pc yb yh yk ho) (hk0 : kd s = nI 8) : ∃ (act : Int32) (u1 : SX) (v1 : SY), (∀ post : SX → Prop, post u1 → wpX_elementCame post (nI L, pn, wp, nI m, nI S, se, fl, nI q, 0, nI s, 1, y, rs, sn, it, le, pe, op, kd, nu, co, cl, ap, rd, si, bg, ct, ls, hd, hk, hc, vl) x y) ∧ (∀ post : Int32 → SY → Prop, post act v1 → wpY_came post (nI L, nI m, nI S, wy, nI q, ya, se, fl, y, vt, ot, ra, br, oc, it, le, tk, cn, kd, nu, lf, la, pc, yb, yh, yk, ho, ap, rd, si, vs, os) x) ∧ rr_N pn wp se wy ra it le pe op kd nu co cl si tk cn L S m (rn_P S g b 1 (s + 1)) (s + 1) act u1 v1 := by
  have hkc : (kd s).toNatClampNeg = 8 := by rw [hk0]; exact nI_clamp (by omega)
  obtain ⟨n, hng, hhc, hho, heq⟩ := dd_get h hs hk0 (by omega)
  have hn : n < 150 := by
    have a := h.1
    have c := h.2.2.2.1 (s + 1) (by omega)
    have d := h.2.2.2.2.2.1 s hs rfl rfl
    omega
  have hs8 : s < 8 := by omega
  have heq2 : ∀ i, i < n → hd (150 * s + i) = yk (160 * s + i) := fun i hi => by
    have := heq i hi
    rw [rn_sl_at (by omega), rn_sl_at (by omega)] at this
    exact this
  have x150 : x * 150 = nI (150 * s) := by
    subst hx
    have := vx_150 hv 0
    rw [nI_0, Int32.add_zero, Nat.add_zero] at this
    exact this
  rcases sr_least (fun i => hd (150 * s + i)) y n with hno | ⟨i0, hi0, hyes, hno⟩
  · refine ⟨1, (nI L, pn, wp, nI m, nI S, se, fl, nI q, 0, nI (s + 1), 1, y, rs, sn, it, le, pe, op, kd, nu, co, cl, ap, rd, si, bg, ct, ls, upd hd (150 * s + n) y, upd hk (150 * s + n) 0, upd hc s (nI (n + 1)), vl), (nI L, nI m, nI S, wy, nI q, ya, se, fl, y, vt, ot, ra, br, oc, it, le, tk, cn, kd, nu, lf, la, pc, yb, upd yh (160 * s + n) y, upd yk (160 * s + n) y, upd ho s (nI (n + 1)), ap, rd, si, vs, os), fun post hp => ?_, fun post hp => ?_, md_give y hkd hS hs h (k := 8) (r1 := r s) ⟨fun t ht => by simp [pk_un ht], fun i hi => ⟨pk_un (by omega), pk_un (by omega)⟩, fun i hi => ⟨pk_un (by omega), pk_un (by omega)⟩⟩ (Or.inr rfl) (Or.inr ⟨rfl, Nat.le_refl _⟩) (Nat.le_refl _) h.1 hkc (fun P' hP => ?_)⟩
    · have key : ∀ (d i nf : Nat), i + d = n → d < nf → wX_giveIfNew_19 post x y (nI (150 * s + n)) (nI L) pn wp (nI m) (nI S) se fl (nI q) 0 (nI s) 1 y rs sn it le pe op kd nu co cl ap rd si bg ct ls hd hk hc vl nf (nI (150 * s + i)) := by
        intro d
        induction d with
        | zero =>
          intro i nf hi hf
          obtain ⟨f, rfl⟩ : ∃ f, nf = f + 1 := ⟨nf - 1, by omega⟩
          refine br_t (by rw [nI_leI (by omega) (by omega)]; omega) (xr_hold hv hx hn hhc 0 ?_)
          exact xr_give hp
        | succ d IH =>
          intro i nf hi hf
          obtain ⟨f, rfl⟩ : ∃ f, nf = f + 1 := ⟨nf - 1, by omega⟩
          exact br_f (nI_ge (by omega) (by omega)) ⟨vp_in_nI (by omega) (by omega), br_f (by rw [nI_clamp (by omega)]; exact hno i (by omega)) (nm_r (nI_1 _) (IH (i + 1) f (by omega) (by omega)))⟩
      have hG : wpX_giveIfNew post (nI L, pn, wp, nI m, nI S, se, fl, nI q, 0, nI s, 1, y, rs, sn, it, le, pe, op, kd, nu, co, cl, ap, rd, si, bg, ct, ls, hd, hk, hc, vl) x y := by
        subst hx
        exact nm_r x150 ⟨hv, nm_r (e' := nI (150 * x.toNatClampNeg + n)) (by rw [hhc, nI_add]) ⟨_, key n 0 _ (by omega) (Nat.lt_succ_self _)⟩⟩
      subst hx
      exact ⟨hv, nm_r hk0 (br_f (by decide) (br_f (by decide) (br_f (by decide) (br_f (by decide) (br_f (by decide) (br_f (by decide) (br_f (by decide) (br_f (by decide) (br_f (by decide) (br_f (by decide) (br_t rfl (hG))))))))))))⟩
    · have hG : ∀ post : Int32 → SY → Prop, post 0 (nI L, nI m, nI S, wy, nI q, ya, se, fl, y, vt, ot, ra, br, oc, it, le, tk, cn, kd, nu, lf, la, pc, yb, upd yh (160 * s + n) y, upd yk (160 * s + n) y, upd ho s (nI (n + 1)), ap, rd, si, vs, os) → wpY_known post (nI L, nI m, nI S, wy, nI q, ya, se, fl, y, vt, ot, ra, br, oc, it, le, tk, cn, kd, nu, lf, la, pc, yb, yh, yk, ho, ap, rd, si, vs, os) x y := fun post hp => by
        unfold wpY_known
        refine yr_find0 hv hx (by omega) hho (fun i hi => by rw [← heq2 i hi]; exact hno i hi) ?_
        exact br_t (by decide) (yr_hold hv hx hn hho y hp)
      subst hx
      exact ⟨hv, nm_r hk0 (br_f (by decide) (br_f (by decide) (br_f (by decide) (br_f (by decide) (br_f (by decide) (br_f (by decide) (br_f (by decide) (br_f (by decide) (br_f (by decide) (br_f (by decide) (br_t rfl (hG _ (br_t rfl hp)))))))))))))⟩
    · refine ⟨n + 1, by omega, pk_us, pk_us, fun i hi => ?_⟩
      rw [rn_sl_at (by omega), rn_sl_at (by omega)]
      by_cases ei : i = n
      · subst ei; rw [pk_us, pk_us]
      · rw [pk_un (by omega), pk_un (by omega)]; exact heq2 i (by omega)
  · refine ⟨2, (nI L, pn, wp, nI m, nI S, se, fl, nI q, 0, rn_aI s, 0, y, rs, sn, it, le, pe, op, kd, nu, co, cl, ap, rd, si, bg, ct, ls, hd, hk, hc, vl), (nI L, nI m, nI S, wy, nI q, ya, se, fl, y, vt, ot, ra, br, oc, it, le, tk, cn, kd, nu, lf, la, pc, yb, yh, yk, ho, ap, rd, si, vs, os), fun post hp => ?_, fun post hp => ?_, md_ask hkd hS hs h (k := 8) (r1 := r s) fr_id (Or.inr rfl) (Or.inl (Nat.le_refl _)) (fun z => absurd z (by simp [rn_cl])) (Nat.le_refl _) h.1 hkc (fun P' hP => dd_mono (k := 8) (by omega) (Nat.le_of_lt hP) (dd_get h hs hk0 (by omega)))⟩
    · have key : ∀ (d i nf : Nat), i + d = i0 → d < nf → wX_giveIfNew_19 post x y (nI (150 * s + n)) (nI L) pn wp (nI m) (nI S) se fl (nI q) 0 (nI s) 1 y rs sn it le pe op kd nu co cl ap rd si bg ct ls hd hk hc vl nf (nI (150 * s + i)) := by
        intro d
        induction d with
        | zero =>
          intro i nf hi hf
          obtain ⟨f, rfl⟩ : ∃ f, nf = f + 1 := ⟨nf - 1, by omega⟩
          have : i = i0 := by omega
          subst this
          exact br_f (nI_ge (by omega) (by omega)) ⟨vp_in_nI (by omega) (by omega), br_t (by rw [nI_clamp (by omega)]; exact hyes) (xr_ask hp)⟩
        | succ d IH =>
          intro i nf hi hf
          obtain ⟨f, rfl⟩ : ∃ f, nf = f + 1 := ⟨nf - 1, by omega⟩
          exact br_f (nI_ge (by omega) (by omega)) ⟨vp_in_nI (by omega) (by omega), br_f (by rw [nI_clamp (by omega)]; exact hno i (by omega)) (nm_r (nI_1 _) (IH (i + 1) f (by omega) (by omega)))⟩
      have hG : wpX_giveIfNew post (nI L, pn, wp, nI m, nI S, se, fl, nI q, 0, nI s, 1, y, rs, sn, it, le, pe, op, kd, nu, co, cl, ap, rd, si, bg, ct, ls, hd, hk, hc, vl) x y := by
        subst hx
        exact nm_r x150 ⟨hv, nm_r (e' := nI (150 * x.toNatClampNeg + n)) (by rw [hhc, nI_add]) ⟨_, key i0 0 _ (by omega) (Nat.lt_succ_self _)⟩⟩
      subst hx
      exact ⟨hv, nm_r hk0 (br_f (by decide) (br_f (by decide) (br_f (by decide) (br_f (by decide) (br_f (by decide) (br_f (by decide) (br_f (by decide) (br_f (by decide) (br_f (by decide) (br_f (by decide) (br_t rfl (hG))))))))))))⟩
    · have hG : ∀ post : Int32 → SY → Prop, post 1 (nI L, nI m, nI S, wy, nI q, ya, se, fl, y, vt, ot, ra, br, oc, it, le, tk, cn, kd, nu, lf, la, pc, yb, yh, yk, ho, ap, rd, si, vs, os) → wpY_known post (nI L, nI m, nI S, wy, nI q, ya, se, fl, y, vt, ot, ra, br, oc, it, le, tk, cn, kd, nu, lf, la, pc, yb, yh, yk, ho, ap, rd, si, vs, os) x y := fun post hp => by
        unfold wpY_known
        refine yr_find1 hv hx (by omega) hho hi0 (by rw [← heq2 i0 hi0]; exact hyes) (fun i hi => by rw [← heq2 i (by omega)]; exact hno i hi) ?_
        exact br_f (nI_pos (by omega)) hp
      subst hx
      exact ⟨hv, nm_r hk0 (br_f (by decide) (br_f (by decide) (br_f (by decide) (br_f (by decide) (br_f (by decide) (br_f (by decide) (br_f (by decide) (br_f (by decide) (br_f (by decide) (br_f (by decide) (br_t rfl (hG _ (br_f (by decide) hp)))))))))))))⟩
theorem cm_15 (hkd : ∀ t, t < S → (kd t).toNatClampNeg ≤ 16) (hS : S ≤ 8) (hL : L ≤ 150) (hs : s < S) (hv : vp_in x 8) (hx : x.toNatClampNeg = s) (h : dd_D S L m le kd nu g e r b 1 (s + 1) q sn ya bg ct ls hd hk hc lf la pc yb yh yk ho) (hk0 : kd s = nI 15) : ∃ (act : Int32) (u1 : SX) (v1 : SY), (∀ post : SX → Prop, post u1 → wpX_elementCame post (nI L, pn, wp, nI m, nI S, se, fl, nI q, 0, nI s, 1, y, rs, sn, it, le, pe, op, kd, nu, co, cl, ap, rd, si, bg, ct, ls, hd, hk, hc, vl) x y) ∧ (∀ post : Int32 → SY → Prop, post act v1 → wpY_came post (nI L, nI m, nI S, wy, nI q, ya, se, fl, y, vt, ot, ra, br, oc, it, le, tk, cn, kd, nu, lf, la, pc, yb, yh, yk, ho, ap, rd, si, vs, os) x) ∧ rr_N pn wp se wy ra it le pe op kd nu co cl si tk cn L S m (rn_P S g b 1 (s + 1)) (s + 1) act u1 v1 := by
  have hkc : (kd s).toNatClampNeg = 15 := by rw [hk0]; exact nI_clamp (by omega)
  have hk15 : kd s = 15 := hk0
  obtain ⟨hbb, j, hj, hhc, hho, hj0, _, heq⟩ := dd_get h hs hk0 (by omega)
  have hb0 : b s = 0 := h.2.2.2.2.2.2.1 s hs (Or.inr ⟨rfl, by decide⟩) (by rw [hkc]; simp [rn_cl])
  have := hj0 hb0
  subst this
  have hn : r s < 150 := by
    have a := h.1
    have c := h.2.2.2.1 (s + 1) (by omega)
    have d := h.2.2.2.2.2.1 s hs rfl rfl
    omega
  have hs8 : s < 8 := by omega
  rw [Nat.add_zero] at hhc hho heq
  refine ⟨2, (nI L, pn, wp, nI m, nI S, se, fl, nI q, 0, rn_aI s, 0, y, rs, sn, it, le, pe, op, kd, nu, co, cl, ap, rd, si, bg, ct, ls, upd hd (150 * s + r s) y, upd hk (150 * s + r s) 0, upd hc s (nI (r s + 1)), vl), (nI L, nI m, nI S, wy, nI q, ya, se, fl, y, vt, ot, ra, br, oc, it, le, tk, cn, kd, nu, lf, la, pc, yb, upd yh (160 * s + r s) y, upd yk (160 * s + r s) 0, upd ho s (nI (r s + 1)), ap, rd, si, vs, os), fun post hp => ?_, fun post hp => ?_, md_ask hkd hS hs h (k := 15) (r1 := r s + 1) ⟨fun t ht => by simp [pk_un ht], fun i hi => ⟨pk_un (by omega), pk_un (by omega)⟩, fun i hi => ⟨pk_un (by omega), pk_un (by omega)⟩⟩ (Or.inr rfl) (Or.inr ⟨rfl, Nat.le_refl _⟩) (fun _ => hb0) (Nat.le_refl _) h.1 hkc (fun P' hP => ?_)⟩
  · have hG : ∀ post : SX → Prop, post (nI L, pn, wp, nI m, nI S, se, fl, nI q, 0, rn_aI s, 0, y, rs, sn, it, le, pe, op, kd, nu, co, cl, ap, rd, si, bg, ct, ls, upd hd (150 * s + r s) y, upd hk (150 * s + r s) 0, upd hc s (nI (r s + 1)), vl) → wpX_gather post (nI L, pn, wp, nI m, nI S, se, fl, nI q, 0, nI s, 1, y, rs, sn, it, le, pe, op, kd, nu, co, cl, ap, rd, si, bg, ct, ls, hd, hk, hc, vl) x y := fun post hp => by
      refine ⟨hv, br_t (by rw [hx]; exact hk15) (xr_hold hv hx hn hhc 0 ?_)⟩
      exact xr_ask hp
    subst hx
    exact ⟨hv, nm_r hk0 (br_f (by decide) (br_f (by decide) (br_f (by decide) (br_f (by decide) (br_f (by decide) (br_f (by decide) (br_f (by decide) (br_f (by decide) (br_f (by decide) (br_f (by decide) (br_f (by decide) (br_f (by decide) (br_f (by decide) (br_f (by decide) (br_f (by decide) (br_f (by decide) (br_f (by decide) (br_t rfl (hG _ hp)))))))))))))))))))⟩
  · have hG := fun (post : SY → Prop) hp => yr_hold (wy := wy) (ya := ya) (se := se) (fl := fl) (vt := vt) (ot := ot) (ra := ra) (br := br) (oc := oc) (it := it) (le := le) (tk := tk) (cn := cn) (kd := kd) (nu := nu) (lf := lf) (la := la) (pc := pc) (yb := yb) (yh := yh) (yk := yk) (ho := ho) (ap := ap) (rd := rd) (si := si) (vs := vs) (os := os) (lm := nI L) (sr := nI m) (sc := nI S) (sp := nI q) (vv := y) (post := post) (y := y) hv hx hn hho 0 hp
    subst hx
    exact ⟨hv, nm_r hk0 (br_f (by decide) (br_t (by decide) (⟨hv, nm_r hk0 (br_f (by decide) (br_f (by decide) (br_f (by decide) (br_f (by decide) (br_f (by decide) (br_t rfl (hG _ hp)))))))⟩)))⟩
  · refine ⟨hbb, 0, by omega, pk_us, pk_us, fun _ => rfl, fun z => absurd z (by omega), fun i hi => ?_⟩
    rw [rn_sl_at (by omega), rn_sl_at (by omega)]
    by_cases ei : i = r s
    · subst ei; rw [pk_us, pk_us]
    · rw [pk_un (by omega), pk_un (by omega)]
      have := heq i (by omega)
      rw [rn_sl_at (by omega), rn_sl_at (by omega)] at this
      exact this
end
end
section
section
variable {lm pn wp sr sc se fl sp pt sg el rs sn wy ya vv vt ot ra br : Int32} {en oc : Int64} {it le pe op kd nu co cl ap rd si bg ct ls hd hk hc vl tk cn lf la pc yb yh yk ho vs os : Nat → Int32}
variable {bg' ct' ls' hd' hk' hc' lf' la' pc' yb' yh' yk' ho' : Nat → Int32} {S L m q s sgn k : Nat} {g e r b : Nat → Nat} {x y : Int32}
/-- the component's insertion into its sorted list -/
theorem so_ins {B n : Nat} (hB : B + n < 1200) (key : Int32) (hd hk : Nat → Int32) :
    ∀ (c : Nat) (hd1 hk1 : Nat → Int32), c ≤ n → (∀ i, c ≤ i → i < n → hd1 (B + i + 1) = hd (B + i) ∧ hk1 (B + i + 1) = hk (B + i)) → (∀ a, (a < B + c ∨ B + n < a) → hd1 a = hd a ∧ hk1 a = hk a) → (∀ i, c ≤ i → i < n → key < hk (B + i)) →
    ∃ (p : Nat) (hd2 hk2 : Nat → Int32), p ≤ n ∧ hd2 (B + p) = y ∧ hk2 (B + p) = key ∧ (∀ i, i < p → hd2 (B + i) = hd (B + i) ∧ hk2 (B + i) = hk (B + i)) ∧ (∀ i, p ≤ i → i < n → hd2 (B + (i + 1)) = hd (B + i) ∧ hk2 (B + (i + 1)) = hk (B + i)) ∧ (∀ i, p ≤ i → i < n → key < hk (B + i)) ∧ (p = 0 ∨ ¬ key < hk (B + (p - 1))) ∧ (∀ a, (a < B ∨ B + n < a) → hd2 a = hd a ∧ hk2 a = hk a) ∧
      ∀ (post : SX → Prop) (nf : Nat), c < nf → post (lm, pn, wp, sr, sc, se, fl, sp, en, pt, sg, el, rs, sn, it, le, pe, op, kd, nu, co, cl, ap, rd, si, bg, ct, ls, hd2, hk2, hc, vl) → wX_holdSorted_27 post y key (nI B) lm pn wp sr sc se fl sp en pt sg el rs sn nf (nI (B + c)) it le pe op kd nu co cl ap rd si bg ct ls hd1 hk1 hc vl := by
  intro c
  induction c with
  | zero =>
    intro hd1 hk1 hc1 h1 h2 h3
    refine ⟨0, upd hd1 (B + 0) y, upd hk1 (B + 0) key, by omega, pk_us, pk_us, fun i hi => absurd hi (by omega), fun i hi1 hi2 => ?_, h3, Or.inl rfl, fun a ha => ?_, fun post nf hf hp => ?_⟩
    · rw [pk_un (by omega), pk_un (by omega)]; exact h1 i hi1 hi2
    · rw [pk_un (by omega), pk_un (by omega)]; exact h2 a (by omega)
    · obtain ⟨f, rfl⟩ : ∃ f, nf = f + 1 := ⟨nf - 1, by omega⟩
      have hin : vp_in (nI (B + 0)) 1200 := vp_in_nI (by omega) (by omega)
      exact br_t (Int32.le_refl _) ⟨hin, nm_r (by rw [nI_clamp (by omega)]) ⟨hin, nm_r (by rw [nI_clamp (by omega)]) hp⟩⟩
  | succ c IH =>
    intro hd1 hk1 hc1 h1 h2 h3
    have hin1 : vp_in (nI (B + (c + 1))) 1200 := vp_in_nI (by omega) (by omega)
    have e0 : nI (B + (c + 1)) - 1 = nI (B + c) := nI_pred (B + c)
    have hin0 : vp_in (nI (B + (c + 1)) - 1) 1200 := by rw [e0]; exact vp_in_nI (by omega) (by omega)
    have f0 : (nI (B + (c + 1)) - 1).toNatClampNeg = B + c := by rw [e0, nI_clamp (by omega)]
    have f1 : (nI (B + (c + 1))).toNatClampNeg = B + (c + 1) := nI_clamp (by omega)
    have hnle : ¬ nI (B + (c + 1)) ≤ nI B := nI_ge (by omega) (by omega)
    have hold := h2 (B + c) (by omega)
    by_cases hle : hk (B + c) ≤ key
    · refine ⟨c + 1, upd hd1 (B + (c + 1)) y, upd hk1 (B + (c + 1)) key, hc1, pk_us, pk_us, fun i hi => ?_, fun i hi1 hi2 => ?_, h3, Or.inr ?_, fun a ha => ?_, fun post nf hf hp => ?_⟩
      · rw [pk_un (by omega), pk_un (by omega)]; exact h2 _ (by omega)
      · rw [pk_un (by omega), pk_un (by omega)]; exact h1 i hi1 hi2
      · rw [show c + 1 - 1 = c from by omega]; exact Int32.not_lt.mpr hle
      · rw [pk_un (by omega), pk_un (by omega)]; exact h2 a (by omega)
      · obtain ⟨f, rfl⟩ : ∃ f, nf = f + 1 := ⟨nf - 1, by omega⟩
        exact br_f hnle ⟨hin0, br_t (by rw [f0, hold.2]; exact hle) ⟨hin1, nm_r (by rw [f1]) ⟨hin1, nm_r (by rw [f1]) hp⟩⟩⟩
    · have hgt : key < hk (B + c) := Int32.not_le.mp hle
      obtain ⟨p, hd2, hk2, g1, g2, g3, g4, g5, g6, g7, g8, g9⟩ := IH (upd hd1 (B + (c + 1)) (hd (B + c))) (upd hk1 (B + (c + 1)) (hk (B + c))) (by omega) (fun i hi1 hi2 => by
        by_cases ei : i = c
        · subst ei
          rw [show B + i + 1 = B + (i + 1) from by omega, pk_us, pk_us]; exact ⟨rfl, rfl⟩
        · rw [pk_un (by omega), pk_un (by omega)]; exact h1 i (by omega) hi2) (fun a ha => by
        rw [pk_un (by omega), pk_un (by omega)]; exact h2 a (by omega)) (fun i hi1 hi2 => by
        by_cases ei : i = c
        · subst ei; exact hgt
        · exact h3 i (by omega) hi2)
      refine ⟨p, hd2, hk2, g1, g2, g3, g4, g5, g6, g7, g8, fun post nf hf hp => ?_⟩
      obtain ⟨f, rfl⟩ : ∃ f, nf = f + 1 := ⟨nf - 1, by omega⟩
      exact br_f hnle ⟨hin0, br_f (by rw [f0, hold.2]; exact hle) ⟨hin0, hin1, nm_r (by rw [f0, f1, hold.1]) ⟨hin0, hin1, nm_r (by rw [f0, f1, hold.2]) (nm_r (pk_m1 (B + c)) (g9 post f (by omega) hp))⟩⟩⟩
theorem cm_14 (hkd : ∀ t, t < S → (kd t).toNatClampNeg ≤ 16) (hS : S ≤ 8) (hL : L ≤ 150) (hs : s < S) (hv : vp_in x 8) (hx : x.toNatClampNeg = s) (h : dd_D S L m le kd nu g e r b 1 (s + 1) q sn ya bg ct ls hd hk hc lf la pc yb yh yk ho) (hk0 : kd s = nI 14) (hE : rl_Ex co cl tk cn s) : ∃ (act : Int32) (u1 : SX) (v1 : SY), (∀ post : SX → Prop, post u1 → wpX_elementCame post (nI L, pn, wp, nI m, nI S, se, fl, nI q, 0, nI s, 1, y, rs, sn, it, le, pe, op, kd, nu, co, cl, ap, rd, si, bg, ct, ls, hd, hk, hc, vl) x y) ∧ (∀ post : Int32 → SY → Prop, post act v1 → wpY_came post (nI L, nI m, nI S, wy, nI q, ya, se, fl, y, vt, ot, ra, br, oc, it, le, tk, cn, kd, nu, lf, la, pc, yb, yh, yk, ho, ap, rd, si, vs, os) x) ∧ rr_N pn wp se wy ra it le pe op kd nu co cl si tk cn L S m (rn_P S g b 1 (s + 1)) (s + 1) act u1 v1 := by
  have hkc : (kd s).toNatClampNeg = 14 := by rw [hk0]; exact nI_clamp (by omega)
  have hk14 : kd s = 14 := hk0
  have hk15 : ¬ kd s = 15 := by rw [hk0]; decide
  have hk16 : ¬ kd s = 16 := by rw [hk0]; decide
  obtain ⟨hbb, j, hj, hhc, hho, hyp, hj0, _, hsort⟩ := dd_get h hs hk0 (by omega)
  have hb0 : b s = 0 := h.2.2.2.2.2.2.1 s hs (Or.inr ⟨rfl, by decide⟩) (by rw [hkc]; simp [rn_cl])
  have := hj0 hb0
  subst this
  have hn : r s < 150 := by
    have a := h.1
    have c := h.2.2.2.1 (s + 1) (by omega)
    have d := h.2.2.2.2.2.1 s hs rfl rfl
    omega
  have hs8 : s < 8 := by omega
  rw [Nat.add_zero] at hhc hho
  rcases rn_apx (pn := pn) (wp := wp) (se := se) (fl := fl) (rs := rs) (sn := sn) (it := it) (le := le) (pe := pe) (op := op) (kd := kd) (nu := nu) (co := co) (cl := cl) (ap := ap) (rd := rd) (si := si) (bg := bg) (ct := ct) (ls := ls) (hd := hd) (hk := hk) (hc := hc) (vl := vl) (wy := wy) (ya := ya) (vt := vt) (ot := ot) (ra := ra) (br := br) (oc := oc) (tk := tk) (cn := cn) (lf := lf) (la := la) (pc := pc) (yb := yb) (yh := yh) (yk := yk) (ho := ho) (vs := vs) (os := os) (sr := nI m) (sc := nI S) (en := 0) (pt := nI s) (sg := 1) (el := y) (vv := y) hL h.1 hv hx hE y 0 with ⟨oe, p', fl', vv', vt', ot', br', ap', vl', vs', os', w1, w2, w3⟩ | ⟨hq, v, vt', ot', br', vl', vs', os', w2, w3⟩
  · refine ⟨3, (nI L, pn, wp, nI m, nI S, se, fl', nI p', oe, nI s, 1, y, rs, sn, it, le, pe, op, kd, nu, co, cl, ap', rd, si, bg, ct, ls, hd, hk, hc, vl'), (nI L, nI m, nI S, wy, nI p', ya, se, fl', vv', vt', ot', ra, br', oe, it, le, tk, cn, kd, nu, lf, la, pc, yb, yh, yk, ho, ap', rd, si, vs', os'), fun post hp => ?_, fun post hp => ?_, md_out w1⟩
    · subst hx
      exact ⟨hv, nm_r hk0 (br_f (by decide) (br_f (by decide) (br_f (by decide) (br_f (by decide) (br_f (by decide) (br_f (by decide) (br_f (by decide) (br_f (by decide) (br_f (by decide) (br_f (by decide) (br_f (by decide) (br_f (by decide) (br_f (by decide) (br_f (by decide) (br_f (by decide) (br_f (by decide) (br_t rfl (⟨hv, br_f hk15 (w2 _ (br_t rfl hp))⟩))))))))))))))))))⟩
    · subst hx
      exact ⟨hv, nm_r hk0 (br_f (by decide) (br_t (by decide) (⟨hv, nm_r hk0 (br_f (by decide) (br_f (by decide) (br_f (by decide) (br_f (by decide) (br_t rfl (w3 _ (br_t rfl hp)))))))⟩)))⟩
  · obtain ⟨p, hd2, hk2, g1, g2, g3, g4, g5, g6, g7, g8, g9⟩ := so_ins (pn := pn) (wp := wp) (se := se) (fl := fl) (sn := sn) (it := it) (le := le) (pe := pe) (op := op) (kd := kd) (nu := nu) (co := co) (cl := cl) (rd := rd) (si := si) (bg := bg) (ct := ct) (ls := ls) (lm := nI L) (sr := nI m) (sc := nI S) (sp := nI (q + 1)) (en := 0) (pt := nI s) (sg := 1) (el := y) (rs := v) (ap := upd ap s (ap s + 1)) (vl := vl') (hc := upd hc s (nI (r s + 1))) (y := y) (B := 150 * s) (n := r s) (by omega) v hd hk (r s) (upd hd (150 * s + r s) y) (upd hk (150 * s + r s) v) (Nat.le_refl _) (fun i h1 h2 => absurd h2 (by omega)) (fun a ha => ⟨pk_un (by omega), pk_un (by omega)⟩) (fun i h1 h2 => absurd h2 (by omega))
    refine ⟨2, (nI L, pn, wp, nI m, nI S, se, fl, nI (q + 1), 0, rn_aI s, 0, y, v, sn, it, le, pe, op, kd, nu, co, cl, upd ap s (ap s + 1), rd, si, bg, ct, ls, hd2, hk2, upd hc s (nI (r s + 1)), vl'), (nI L, nI m, nI S, wy, nI (q + 1), ya, se, fl, v, vt', ot', ra, br', oc, it, le, tk, cn, kd, nu, lf, la, pc, yb, upd yh (160 * s + r s) y, upd yk (160 * s + r s) v, upd ho s (nI (r s + 1)), upd ap s (ap s + 1), rd, si, vs', os'), fun post hp => ?_, fun post hp => ?_, md_ask hkd hS hs h (k := 14) (r1 := r s + 1) ⟨fun t ht => by simp [pk_un ht], fun i hi => g8 i (by omega), fun i hi => ⟨pk_un (by omega), pk_un (by omega)⟩⟩ (Or.inr rfl) (Or.inr ⟨rfl, Nat.le_refl _⟩) (fun _ => hb0) (by omega) (by omega) hkc (fun P' hP => ?_)⟩
    · have hG : ∀ post : SX → Prop, post (nI L, pn, wp, nI m, nI S, se, fl, nI (q + 1), 0, nI s, 1, y, v, sn, it, le, pe, op, kd, nu, co, cl, upd ap s (ap s + 1), rd, si, bg, ct, ls, hd2, hk2, upd hc s (nI (r s + 1)), vl') → wpX_holdSorted post (nI L, pn, wp, nI m, nI S, se, fl, nI (q + 1), 0, nI s, 1, y, v, sn, it, le, pe, op, kd, nu, co, cl, upd ap s (ap s + 1), rd, si, bg, ct, ls, hd, hk, hc, vl') x y v := fun post hp => by
        unfold wpX_holdSorted
        refine xr_hold hv hx hn hhc v ?_
        have e1 : x * 150 = nI (150 * s) := by
          subst hx
          have := vx_150 hv 0
          rw [nI_0, Int32.add_zero, Nat.add_zero] at this
          exact this
        refine nm_r e1 ⟨hv, nm_r (e' := nI (150 * s + r s)) ?_ ⟨_, g9 post _ (Nat.lt_succ_self _) hp⟩⟩
        rw [hx, pk_us, nI_add, ← Nat.add_assoc, nI_pred]
      subst hx
      exact ⟨hv, nm_r hk0 (br_f (by decide) (br_f (by decide) (br_f (by decide) (br_f (by decide) (br_f (by decide) (br_f (by decide) (br_f (by decide) (br_f (by decide) (br_f (by decide) (br_f (by decide) (br_f (by decide) (br_f (by decide) (br_f (by decide) (br_f (by decide) (br_f (by decide) (br_f (by decide) (br_t rfl (⟨hv, br_f hk15 (w2 _ (br_f (by decide) ⟨hv, br_t hk14 (hG _ (xr_ask hp))⟩))⟩))))))))))))))))))⟩
    · have hG := fun (post : SY → Prop) hp => yr_hold (wy := wy) (ya := ya) (se := se) (fl := fl) (ra := ra) (oc := oc) (it := it) (le := le) (tk := tk) (cn := cn) (kd := kd) (nu := nu) (lf := lf) (la := la) (pc := pc) (yb := yb) (yh := yh) (yk := yk) (ho := ho) (rd := rd) (si := si) (lm := nI L) (sr := nI m) (sc := nI S) (sp := nI (q + 1)) (vv := v) (ap := upd ap s (ap s + 1)) (vt := vt') (ot := ot') (br := br') (vs := vs') (os := os') (post := post) (y := y) hv hx hn hho v hp
      subst hx
      exact ⟨hv, nm_r hk0 (br_f (by decide) (br_t (by decide) (⟨hv, nm_r hk0 (br_f (by decide) (br_f (by decide) (br_f (by decide) (br_f (by decide) (br_t rfl (w3 _ (br_f (by decide) ⟨hv, br_f hk16 (br_t (by decide) (hG _ hp))⟩)))))))⟩)))⟩
    · refine ⟨hbb, 0, by omega, pk_us, pk_us, hyp, fun _ => rfl, fun z => absurd z (by omega), ?_⟩
      have hY : ls_l (fun i => (rn_sl (upd yk (160 * s + r s) v) 160 s (0 + i), rn_sl (upd yh (160 * s + r s) y) 160 s (0 + i))) (r s + 1) = ls_l (fun i => (rn_sl yk 160 s (0 + i), rn_sl yh 160 s (0 + i))) (r s) ++ [(v, y)] := by
        rw [ls_add]
        congr 1
        · refine ls_congr _ _ _ (fun i hi => ?_)
          rw [rn_sl_at (by omega), rn_sl_at (by omega), rn_sl_at (by omega), rn_sl_at (by omega), pk_un (by omega), pk_un (by omega)]
        · simp only [ls_l]
          rw [rn_sl_at (by omega), rn_sl_at (by omega), show 160 * s + (0 + (r s + 0)) = 160 * s + r s from by omega, pk_us, pk_us]
      rw [hY, ls_st_snoc, ← hsort]
      refine ls_ins (fun i => (rn_sl hk 150 s (0 + i), rn_sl hd 150 s (0 + i))) _ (r s) p g1 (v, y) (fun i hi => ?_) ?_ (fun i hi1 hi2 => ?_) (fun i hi1 hi2 => ?_) ?_
      · have := g4 i hi
        rw [Nat.zero_add, rn_sl_at (by omega), rn_sl_at (by omega), rn_sl_at (by omega), rn_sl_at (by omega), this.1, this.2]
      · rw [Nat.zero_add, rn_sl_at (by omega), rn_sl_at (by omega), g2, g3]
      · have := g5 i hi1 hi2
        rw [Nat.zero_add, Nat.zero_add, rn_sl_at (by omega), rn_sl_at (by omega), rn_sl_at (by omega), rn_sl_at (by omega), this.1, this.2]
      · have := g6 i hi1 hi2
        dsimp only
        rw [Nat.zero_add, rn_sl_at (by omega)]; exact this
      · rcases g7 with g7 | g7
        · exact Or.inl g7
        · by_cases ep : p = 0
          · exact Or.inl ep
          · refine Or.inr ?_
            dsimp only
            rw [Nat.zero_add, rn_sl_at (by omega)]; exact g7
theorem cm_16 (hkd : ∀ t, t < S → (kd t).toNatClampNeg ≤ 16) (hS : S ≤ 8) (hL : L ≤ 150) (hs : s < S) (hv : vp_in x 8) (hx : x.toNatClampNeg = s) (h : dd_D S L m le kd nu g e r b 1 (s + 1) q sn ya bg ct ls hd hk hc lf la pc yb yh yk ho) (hk0 : kd s = nI 16) (hE : rl_Ex co cl tk cn s) : ∃ (act : Int32) (u1 : SX) (v1 : SY), (∀ post : SX → Prop, post u1 → wpX_elementCame post (nI L, pn, wp, nI m, nI S, se, fl, nI q, 0, nI s, 1, y, rs, sn, it, le, pe, op, kd, nu, co, cl, ap, rd, si, bg, ct, ls, hd, hk, hc, vl) x y) ∧ (∀ post : Int32 → SY → Prop, post act v1 → wpY_came post (nI L, nI m, nI S, wy, nI q, ya, se, fl, y, vt, ot, ra, br, oc, it, le, tk, cn, kd, nu, lf, la, pc, yb, yh, yk, ho, ap, rd, si, vs, os) x) ∧ rr_N pn wp se wy ra it le pe op kd nu co cl si tk cn L S m (rn_P S g b 1 (s + 1)) (s + 1) act u1 v1 := by
  have hkc : (kd s).toNatClampNeg = 16 := by rw [hk0]; exact nI_clamp (by omega)
  have hk14 : ¬ kd s = 14 := by rw [hk0]; decide
  have hk15 : ¬ kd s = 15 := by rw [hk0]; decide
  have hk16 : kd s = 16 := hk0
  obtain ⟨hbb, j, hj, hhc, hho, hyp, hj0, _, heq⟩ := dd_get h hs hk0 (by omega)
  have hb0 : b s = 0 := h.2.2.2.2.2.2.1 s hs (Or.inr ⟨rfl, by decide⟩) (by rw [hkc]; simp [rn_cl])
  have := hj0 hb0
  subst this
  have hn : r s < 150 := by
    have a := h.1
    have c := h.2.2.2.1 (s + 1) (by omega)
    have d := h.2.2.2.2.2.1 s hs rfl rfl
    omega
  have hs8 : s < 8 := by omega
  rw [Nat.add_zero] at hhc hho heq
  have heq2 : ∀ i, i < r s → hd (150 * s + i) = yh (160 * s + i) ∧ hk (150 * s + i) = yk (160 * s + i) := fun i hi => by
    have := heq i hi
    rw [rn_sl_at (by omega), rn_sl_at (by omega), rn_sl_at (by omega), rn_sl_at (by omega)] at this
    exact this
  have x150 : x * 150 = nI (150 * s) := by
    subst hx
    have := vx_150 hv 0
    rw [nI_0, Int32.add_zero, Nat.add_zero] at this
    exact this
  rcases rn_apx (pn := pn) (wp := wp) (se := se) (fl := fl) (rs := rs) (sn := sn) (it := it) (le := le) (pe := pe) (op := op) (kd := kd) (nu := nu) (co := co) (cl := cl) (ap := ap) (rd := rd) (si := si) (bg := bg) (ct := ct) (ls := ls) (hd := hd) (hk := hk) (hc := hc) (vl := vl) (wy := wy) (ya := ya) (vt := vt) (ot := ot) (ra := ra) (br := br) (oc := oc) (tk := tk) (cn := cn) (lf := lf) (la := la) (pc := pc) (yb := yb) (yh := yh) (yk := yk) (ho := ho) (vs := vs) (os := os) (sr := nI m) (sc := nI S) (en := 0) (pt := nI s) (sg := 1) (el := y) (vv := y) hL h.1 hv hx hE y 0 with ⟨oe, p', fl', vv', vt', ot', br', ap', vl', vs', os', w1, w2, w3⟩ | ⟨hq, v, vt', ot', br', vl', vs', os', w2, w3⟩
  · refine ⟨3, (nI L, pn, wp, nI m, nI S, se, fl', nI p', oe, nI s, 1, y, rs, sn, it, le, pe, op, kd, nu, co, cl, ap', rd, si, bg, ct, ls, hd, hk, hc, vl'), (nI L, nI m, nI S, wy, nI p', ya, se, fl', vv', vt', ot', ra, br', oe, it, le, tk, cn, kd, nu, lf, la, pc, yb, yh, yk, ho, ap', rd, si, vs', os'), fun post hp => ?_, fun post hp => ?_, md_out w1⟩
    · subst hx
      exact ⟨hv, nm_r hk0 (br_f (by decide) (br_f (by decide) (br_f (by decide) (br_f (by decide) (br_f (by decide) (br_f (by decide) (br_f (by decide) (br_f (by decide) (br_f (by decide) (br_f (by decide) (br_f (by decide) (br_f (by decide) (br_f (by decide) (br_f (by decide) (br_f (by decide) (br_f (by decide) (br_f (by decide) (br_f (by decide) (br_t rfl (⟨hv, br_f hk15 (w2 _ (br_t rfl hp))⟩))))))))))))))))))))⟩
    · subst hx
      exact ⟨hv, nm_r hk0 (br_f (by decide) (br_t (by decide) (⟨hv, nm_r hk0 (br_f (by decide) (br_t (by decide) (w3 _ (br_t rfl hp))))⟩)))⟩
  · rcases sr_least (fun i => hk (150 * s + i)) v (r s) with hno | ⟨i0, hi0, hyes, hno⟩
    · refine ⟨2, (nI L, pn, wp, nI m, nI S, se, fl, nI (q + 1), 0, rn_aI s, 0, y, v, sn, it, le, pe, op, kd, nu, co, cl, upd ap s (ap s + 1), rd, si, bg, ct, ls, upd hd (150 * s + r s) y, upd hk (150 * s + r s) v, upd hc s (nI (r s + 1)), vl'), (nI L, nI m, nI S, wy, nI (q + 1), ya, se, fl, v, vt', ot', ra, br', oc, it, le, tk, cn, kd, nu, lf, la, pc, yb, upd yh (160 * s + r s) y, upd yk (160 * s + r s) v, upd ho s (nI (r s + 1)), upd ap s (ap s + 1), rd, si, vs', os'), fun post hp => ?_, fun post hp => ?_, md_ask hkd hS hs h (k := 16) (r1 := r s + 1) ⟨fun t ht => by simp [pk_un ht], fun i hi => ⟨pk_un (by omega), pk_un (by omega)⟩, fun i hi => ⟨pk_un (by omega), pk_un (by omega)⟩⟩ (Or.inr rfl) (Or.inr ⟨rfl, Nat.le_refl _⟩) (fun _ => hb0) (by omega) (by omega) hkc (fun P' hP => ?_)⟩
      · have hG : ∀ post : SX → Prop, post (nI L, pn, wp, nI m, nI S, se, fl, nI (q + 1), 0, nI s, 1, y, v, sn, it, le, pe, op, kd, nu, co, cl, upd ap s (ap s + 1), rd, si, bg, ct, ls, upd hd (150 * s + r s) y, upd hk (150 * s + r s) v, upd hc s (nI (r s + 1)), vl') → wpX_holdInGroup post (nI L, pn, wp, nI m, nI S, se, fl, nI (q + 1), 0, nI s, 1, y, v, sn, it, le, pe, op, kd, nu, co, cl, upd ap s (ap s + 1), rd, si, bg, ct, ls, hd, hk, hc, vl') x y v := fun post hp => by
          have key : ∀ (d i nf : Nat), i + d = r s → d < nf → wX_holdInGroup_22 post x y v (nI (150 * s + r s)) (nI L) pn wp (nI m) (nI S) se fl (nI (q + 1)) 0 (nI s) 1 y v sn it le pe op kd nu co cl (upd ap s (ap s + 1)) rd si bg ct ls hd hk hc vl' nf (nI (150 * s + i)) := by
            intro d
            induction d with
            | zero =>
              intro i nf hi hf
              obtain ⟨f, rfl⟩ : ∃ f, nf = f + 1 := ⟨nf - 1, by omega⟩
              exact br_t (by rw [nI_leI (by omega) (by omega)]; omega) (xr_hold hv hx hn hhc v hp)
            | succ d IH =>
              intro i nf hi hf
              obtain ⟨f, rfl⟩ : ∃ f, nf = f + 1 := ⟨nf - 1, by omega⟩
              exact br_f (nI_ge (by omega) (by omega)) ⟨vp_in_nI (by omega) (by omega), br_f (by rw [nI_clamp (by omega)]; exact hno i (by omega)) (nm_r (nI_1 _) (IH (i + 1) f (by omega) (by omega)))⟩
          refine nm_r x150 ⟨hv, nm_r (e' := nI (150 * s + r s)) (by rw [hx, hhc, nI_add]) ⟨_, key (r s) 0 _ (by omega) (Nat.lt_succ_self _)⟩⟩
        subst hx
        exact ⟨hv, nm_r hk0 (br_f (by decide) (br_f (by decide) (br_f (by decide) (br_f (by decide) (br_f (by decide) (br_f (by decide) (br_f (by decide) (br_f (by decide) (br_f (by decide) (br_f (by decide) (br_f (by decide) (br_f (by decide) (br_f (by decide) (br_f (by decide) (br_f (by decide) (br_f (by decide) (br_f (by decide) (br_f (by decide) (br_t rfl (⟨hv, br_f hk15 (w2 _ (br_f (by decide) ⟨hv, br_f hk14 (hG _ (xr_ask hp))⟩))⟩))))))))))))))))))))⟩
      · have hG := fun (post : SY → Prop) hp => yr_hold (wy := wy) (ya := ya) (se := se) (fl := fl) (ra := ra) (oc := oc) (it := it) (le := le) (tk := tk) (cn := cn) (kd := kd) (nu := nu) (lf := lf) (la := la) (pc := pc) (yb := yb) (yh := yh) (yk := yk) (ho := ho) (rd := rd) (si := si) (lm := nI L) (sr := nI m) (sc := nI S) (sp := nI (q + 1)) (vv := v) (ap := upd ap s (ap s + 1)) (vt := vt') (ot := ot') (br := br') (vs := vs') (os := os') (post := post) (y := y) hv hx hn hho v hp
        have hF := fun (post : Int32 → Prop) hp => yr_find0 (wy := wy) (ya := ya) (se := se) (fl := fl) (ra := ra) (oc := oc) (it := it) (le := le) (tk := tk) (cn := cn) (kd := kd) (nu := nu) (lf := lf) (la := la) (pc := pc) (yb := yb) (yh := yh) (yk := yk) (ho := ho) (rd := rd) (si := si) (lm := nI L) (sr := nI m) (sc := nI S) (sp := nI (q + 1)) (vv := v) (ap := upd ap s (ap s + 1)) (vt := vt') (ot := ot') (br := br') (vs := vs') (os := os') (post := post) (y := v) hv hx (Nat.le_of_lt hn) hho (fun i hi => by rw [← (heq2 i hi).2]; exact hno i hi) hp
        subst hx
        exact ⟨hv, nm_r hk0 (br_f (by decide) (br_t (by decide) (⟨hv, nm_r hk0 (br_f (by decide) (br_t (by decide) (w3 _ (br_f (by decide) ⟨hv, br_t hk16 (hF _ (br_t (by decide) (hG _ hp)))⟩))))⟩)))⟩
      · refine ⟨hbb, 0, by omega, pk_us, pk_us, hyp, fun _ => rfl, fun z => absurd z (by omega), fun i hi => ?_⟩
        rw [rn_sl_at (by omega), rn_sl_at (by omega), rn_sl_at (by omega), rn_sl_at (by omega)]
        by_cases ei : i = r s
        · subst ei; rw [pk_us, pk_us, pk_us, pk_us]; exact ⟨rfl, rfl⟩
        · rw [pk_un (by omega), pk_un (by omega), pk_un (by omega), pk_un (by omega)]; exact heq2 i (by omega)
    · refine ⟨2, (nI L, pn, wp, nI m, nI S, se, fl, nI (q + 1), 0, rn_aI s, 0, y, v, sn, it, le, pe, op, kd, nu, co, cl, upd ap s (ap s + 1), rd, si, bg, ct, ls, upd hd (150 * s + i0) (hd (150 * s + i0) + y), hk, hc, vl'), (nI L, nI m, nI S, wy, nI (q + 1), ya, se, fl, v, vt', ot', ra, br', oc, it, le, tk, cn, kd, nu, lf, la, pc, yb, upd yh (160 * s + i0) (yh (160 * s + i0) + y), yk, ho, upd ap s (ap s + 1), rd, si, vs', os'), fun post hp => ?_, fun post hp => ?_, md_ask hkd hS hs h (k := 16) (r1 := r s) ⟨fun t ht => ⟨rfl, rfl, rfl, rfl, rfl, rfl, rfl, rfl, rfl⟩, fun i hi => ⟨pk_un (by omega), rfl⟩, fun i hi => ⟨pk_un (by omega), rfl⟩⟩ (Or.inr rfl) (Or.inl (Nat.le_refl _)) (fun _ => hb0) (by omega) (by omega) hkc (fun P' hP => ?_)⟩
      · have hG : ∀ post : SX → Prop, post (nI L, pn, wp, nI m, nI S, se, fl, nI (q + 1), 0, nI s, 1, y, v, sn, it, le, pe, op, kd, nu, co, cl, upd ap s (ap s + 1), rd, si, bg, ct, ls, upd hd (150 * s + i0) (hd (150 * s + i0) + y), hk, hc, vl') → wpX_holdInGroup post (nI L, pn, wp, nI m, nI S, se, fl, nI (q + 1), 0, nI s, 1, y, v, sn, it, le, pe, op, kd, nu, co, cl, upd ap s (ap s + 1), rd, si, bg, ct, ls, hd, hk, hc, vl') x y v := fun post hp => by
          have key : ∀ (d i nf : Nat), i + d = i0 → d < nf → wX_holdInGroup_22 post x y v (nI (150 * s + r s)) (nI L) pn wp (nI m) (nI S) se fl (nI (q + 1)) 0 (nI s) 1 y v sn it le pe op kd nu co cl (upd ap s (ap s + 1)) rd si bg ct ls hd hk hc vl' nf (nI (150 * s + i)) := by
            intro d
            induction d with
            | zero =>
              intro i nf hi hf
              obtain ⟨f, rfl⟩ : ∃ f, nf = f + 1 := ⟨nf - 1, by omega⟩
              have : i = i0 := by omega
              subst this
              have hin : vp_in (nI (150 * s + i)) 1200 := vp_in_nI (by omega) (by omega)
              exact br_f (nI_ge (by omega) (by omega)) ⟨hin, br_t (by rw [nI_clamp (by omega)]; exact hyes) ⟨hin, hin, nm_r (by rw [nI_clamp (by omega)]) hp⟩⟩
            | succ d IH =>
              intro i nf hi hf
              obtain ⟨f, rfl⟩ : ∃ f, nf = f + 1 := ⟨nf - 1, by omega⟩
              exact br_f (nI_ge (by omega) (by omega)) ⟨vp_in_nI (by omega) (by omega), br_f (by rw [nI_clamp (by omega)]; exact hno i (by omega)) (nm_r (nI_1 _) (IH (i + 1) f (by omega) (by omega)))⟩
          refine nm_r x150 ⟨hv, nm_r (e' := nI (150 * s + r s)) (by rw [hx, hhc, nI_add]) ⟨_, key i0 0 _ (by omega) (Nat.lt_succ_self _)⟩⟩
        subst hx
        exact ⟨hv, nm_r hk0 (br_f (by decide) (br_f (by decide) (br_f (by decide) (br_f (by decide) (br_f (by decide) (br_f (by decide) (br_f (by decide) (br_f (by decide) (br_f (by decide) (br_f (by decide) (br_f (by decide) (br_f (by decide) (br_f (by decide) (br_f (by decide) (br_f (by decide) (br_f (by decide) (br_f (by decide) (br_f (by decide) (br_t rfl (⟨hv, br_f hk15 (w2 _ (br_f (by decide) ⟨hv, br_f hk14 (hG _ (xr_ask hp))⟩))⟩))))))))))))))))))))⟩
      · have hF := fun (post : Int32 → Prop) hp => yr_find1 (wy := wy) (ya := ya) (se := se) (fl := fl) (ra := ra) (oc := oc) (it := it) (le := le) (tk := tk) (cn := cn) (kd := kd) (nu := nu) (lf := lf) (la := la) (pc := pc) (yb := yb) (yh := yh) (yk := yk) (ho := ho) (rd := rd) (si := si) (lm := nI L) (sr := nI m) (sc := nI S) (sp := nI (q + 1)) (vv := v) (ap := upd ap s (ap s + 1)) (vt := vt') (ot := ot') (br := br') (vs := vs') (os := os') (post := post) (y := v) hv hx (Nat.le_of_lt hn) hho hi0 (by rw [← (heq2 i0 hi0).2]; exact hyes) (fun i hi => by rw [← (heq2 i (by omega)).2]; exact hno i hi) hp
        subst hx
        have e1 : 160 * x + nI i0 = nI (160 * x.toNatClampNeg + i0) := by rw [vx_160 hv, nI_add]
        have hin : vp_in (160 * x + nI i0) 1280 := by rw [e1]; exact vp_in_nI (by omega) (by omega)
        have hcc : (160 * x + nI i0).toNatClampNeg = 160 * x.toNatClampNeg + i0 := by rw [e1, nI_clamp (by omega)]
        exact ⟨hv, nm_r hk0 (br_f (by decide) (br_t (by decide) (⟨hv, nm_r hk0 (br_f (by decide) (br_t (by decide) (w3 _ (br_f (by decide) ⟨hv, br_t hk16 (hF _ (br_f (nI_pos (by omega)) ⟨hin, hin, nm_r (by rw [hcc]) hp⟩))⟩))))⟩)))⟩
      · refine ⟨hbb, 0, by omega, by rw [Nat.add_zero]; exact hhc, by rw [Nat.add_zero]; exact hho, hyp, fun _ => rfl, fun z => absurd z (by omega), fun i hi => ?_⟩
        rw [rn_sl_at (by omega), rn_sl_at (by omega), rn_sl_at (by omega), rn_sl_at (by omega)]
        have := heq2 i (by omega)
        refine ⟨?_, this.2⟩
        by_cases ei : i = i0
        · subst ei; rw [pk_us, pk_us, this.1]
        · rw [pk_un (by omega), pk_un (by omega)]; exact this.1
end
end
section
def nx_W (post : Int32 → SX → Prop) (n : Nat) (t : Int32) (u : SX) : Prop := match u with
  | (a1, a2, a3, a4, a5, a6, a7, a8, a9, a10, a11, a12, a13, a14, a15, a16, a17, a18, a19, a20, a21, a22, a23, a24, a25, a26, a27, a28, a29, a30, a31, a32) => wX_nextComes_17 post n t a1 a2 a3 a4 a5 a6 a7 a8 a9 a10 a11 a12 a13 a14 a15 a16 a17 a18 a19 a20 a21 a22 a23 a24 a25 a26 a27 a28 a29 a30 a31 a32
def ny_W (post : Int32 → SY → Prop) (n : Nat) (x1 x2 x3 : Int32) (u : SY) : Prop := match u with
  | (a1, a2, a3, a4, a5, a6, a7, a8, a9, a10, a11, a12, a13, a14, a15, a16, a17, a18, a19, a20, a21, a22, a23, a24, a25, a26, a27, a28, a29, a30, a31, a32) => wY_pull_11 post n x1 x2 x3 a1 a2 a3 a4 a5 a6 a7 a8 a9 a10 a11 a12 a13 a14 a15 a16 a17 a18 a19 a20 a21 a22 a23 a24 a25 a26 a27 a28 a29 a30 a31 a32
def ny_A (post : Int32 → SY → Prop) (nf s : Nat) (act : Int32) (v : SY) : Prop :=
  (act = 3 ∧ post 3 v) ∨ (act = 2 ∧ ny_W post nf (rn_aI s) 2 1 v) ∨ ((act = 0 ∨ act = 1) ∧ ny_W post nf (nI (s + 1)) act 0 v)
theorem nx_lt {t : Nat} (h : t < 1000000) : ¬ (1000000 : Int32) ≤ nI t := nI_ge (b := 1000000) h (by decide)
section
variable {lm pn wp sr sc se fl sp pt sg el rs sn wy ya vv vt ot ra br : Int32} {en oc : Int64} {it le pe op kd nu co cl ap rd si bg ct ls hd hk hc vl tk cn lf la pc yb yh yk ho vs os : Nat → Int32}
variable {bg' ct' ls' hd' hk' hc' lf' la' pc' yb' yh' yk' ho' : Nat → Int32} {S L m q s sgn k : Nat} {g e r b : Nat → Nat} {x y : Int32}
theorem nx_as {u1 : SX} (hs : s < S) (hS : S ≤ 8) (hX : ∀ post : SX → Prop, post u1 → wpX_stageAsked post (lm, pn, wp, sr, nI S, se, fl, sp, 0, nI s, 0, el, rs, sn, it, le, pe, op, kd, nu, co, cl, ap, rd, si, bg, ct, ls, hd, hk, hc, vl) (nI s)) (post : Int32 → SX → Prop) (nf t : Nat) (ht : t < 1000000) (h : nx_W post nf (nI (t + 1)) u1) : nx_W post (nf + 1) (nI t) (lm, pn, wp, sr, nI S, se, fl, sp, 0, nI s, 0, el, rs, sn, it, le, pe, op, kd, nu, co, cl, ap, rd, si, bg, ct, ls, hd, hk, hc, vl) := by
  obtain ⟨a1, a2, a3, a4, a5, a6, a7, a8, a9, a10, a11, a12, a13, a14, a15, a16, a17, a18, a19, a20, a21, a22, a23, a24, a25, a26, a27, a28, a29, a30, a31, a32⟩ := u1
  exact br_f (nx_lt ht) (br_f (nI_ge hs (by omega)) (br_t rfl (br_t (nI_pos' (by omega)) (br_t rfl (hX _ (nm_r (nI_1 t) h))))))
theorem nx_cm {u1 : SX} (hs : s < S) (hS : S ≤ 8) (hX : ∀ post : SX → Prop, post u1 → wpX_elementCame post (lm, pn, wp, sr, nI S, se, fl, sp, 0, nI s, 1, y, rs, sn, it, le, pe, op, kd, nu, co, cl, ap, rd, si, bg, ct, ls, hd, hk, hc, vl) (nI s) y) (post : Int32 → SX → Prop) (nf t : Nat) (ht : t < 1000000) (h : nx_W post nf (nI (t + 1)) u1) : nx_W post (nf + 1) (nI t) (lm, pn, wp, sr, nI S, se, fl, sp, 0, nI s, 1, y, rs, sn, it, le, pe, op, kd, nu, co, cl, ap, rd, si, bg, ct, ls, hd, hk, hc, vl) := by
  obtain ⟨a1, a2, a3, a4, a5, a6, a7, a8, a9, a10, a11, a12, a13, a14, a15, a16, a17, a18, a19, a20, a21, a22, a23, a24, a25, a26, a27, a28, a29, a30, a31, a32⟩ := u1
  exact br_f (nx_lt ht) (br_f (nI_ge hs (by omega)) (br_t rfl (br_t (nI_pos' (by omega)) (br_f (by decide) (br_t rfl (hX _ (nm_r (nI_1 t) h)))))))
theorem nx_en {u1 : SX} (hs : s < S) (hS : S ≤ 8) (hX : ∀ post : SX → Prop, post u1 → wpX_endCame post (lm, pn, wp, sr, nI S, se, fl, sp, 0, nI s, 2, el, rs, sn, it, le, pe, op, kd, nu, co, cl, ap, rd, si, bg, ct, ls, hd, hk, hc, vl) (nI s)) (post : Int32 → SX → Prop) (nf t : Nat) (ht : t < 1000000) (h : nx_W post nf (nI (t + 1)) u1) : nx_W post (nf + 1) (nI t) (lm, pn, wp, sr, nI S, se, fl, sp, 0, nI s, 2, el, rs, sn, it, le, pe, op, kd, nu, co, cl, ap, rd, si, bg, ct, ls, hd, hk, hc, vl) := by
  obtain ⟨a1, a2, a3, a4, a5, a6, a7, a8, a9, a10, a11, a12, a13, a14, a15, a16, a17, a18, a19, a20, a21, a22, a23, a24, a25, a26, a27, a28, a29, a30, a31, a32⟩ := u1
  exact br_f (nx_lt ht) (br_f (nI_ge hs (by omega)) (br_t rfl (br_t (nI_pos' (by omega)) (br_f (by decide) (br_f (by decide) (hX _ (nm_r (nI_1 t) h)))))))
theorem nx_sr {u1 : SX} (hS : S ≤ 8) (hX : ∀ post : SX → Prop, post u1 → wpX_sourceAsked post (lm, pn, wp, sr, nI S, se, fl, sp, 0, -1, 0, el, rs, sn, it, le, pe, op, kd, nu, co, cl, ap, rd, si, bg, ct, ls, hd, hk, hc, vl)) (post : Int32 → SX → Prop) (nf t : Nat) (ht : t < 1000000) (h : nx_W post nf (nI (t + 1)) u1) : nx_W post (nf + 1) (nI t) (lm, pn, wp, sr, nI S, se, fl, sp, 0, -1, 0, el, rs, sn, it, le, pe, op, kd, nu, co, cl, ap, rd, si, bg, ct, ls, hd, hk, hc, vl) := by
  obtain ⟨a1, a2, a3, a4, a5, a6, a7, a8, a9, a10, a11, a12, a13, a14, a15, a16, a17, a18, a19, a20, a21, a22, a23, a24, a25, a26, a27, a28, a29, a30, a31, a32⟩ := u1
  refine br_f (nx_lt ht) (br_f ?_ (br_t rfl (br_f (by decide) (hX _ (nm_r (nI_1 t) h)))))
  intro z
  exact Int32.lt_irrefl (Int32.lt_of_lt_of_le (Int32.lt_of_le_of_lt z (by decide : (-1 : Int32) < 0)) (nI_pos' (by omega)))
theorem ny_77 {act : Int32} {v1 : SY} (post : Int32 → SY → Prop) (nf : Nat) (h : ny_A post nf s act v1) : (match v1 with | (a1, a2, a3, a4, a5, a6, a7, a8, a9, a10, a11, a12, a13, a14, a15, a16, a17, a18, a19, a20, a21, a22, a23, a24, a25, a26, a27, a28, a29, a30, a31, a32) => wY_pull_77 post (wY_pull_11 post nf) (nI s) act a1 a2 a3 a4 a5 a6 a7 a8 a9 a10 a11 a12 a13 a14 a15 a16 a17 a18 a19 a20 a21 a22 a23 a24 a25 a26 a27 a28 a29 a30 a31 a32) := by
  obtain ⟨a1, a2, a3, a4, a5, a6, a7, a8, a9, a10, a11, a12, a13, a14, a15, a16, a17, a18, a19, a20, a21, a22, a23, a24, a25, a26, a27, a28, a29, a30, a31, a32⟩ := v1
  rcases h with ⟨rfl, h⟩ | ⟨rfl, h⟩ | ⟨ha, h⟩
  · exact br_t rfl h
  · exact br_f (by decide) (br_t rfl (br_f (by decide) (nm_r (rn_m1 s) h)))
  · rcases ha with rfl | rfl
    · exact br_f (by decide) (br_f (by decide) (br_t rfl (nm_r (nI_1 s) h)))
    · exact br_f (by decide) (br_f (by decide) (br_t rfl (nm_r (nI_1 s) h)))
theorem ny_as {act : Int32} {v1 : SY} (hs : s < S) (hS : S ≤ 8) (hY : ∀ post : Int32 → SY → Prop, post act v1 → wpY_asked post (lm, sr, nI S, wy, sp, ya, se, fl, vv, vt, ot, ra, br, oc, it, le, tk, cn, kd, nu, lf, la, pc, yb, yh, yk, ho, ap, rd, si, vs, os) (nI s)) (post : Int32 → SY → Prop) (nf : Nat) (h : ny_A post nf s act v1) : ny_W post (nf + 1) (nI s) 2 1 (lm, sr, nI S, wy, sp, ya, se, fl, vv, vt, ot, ra, br, oc, it, le, tk, cn, kd, nu, lf, la, pc, yb, yh, yk, ho, ap, rd, si, vs, os) := by
  have := ny_77 post nf h
  obtain ⟨a1, a2, a3, a4, a5, a6, a7, a8, a9, a10, a11, a12, a13, a14, a15, a16, a17, a18, a19, a20, a21, a22, a23, a24, a25, a26, a27, a28, a29, a30, a31, a32⟩ := v1
  exact br_f (nI_ge hs (by omega)) (br_t (nI_pos' (by omega)) (br_f (by decide) (hY _ this)))
theorem ny_cm {act : Int32} {v1 : SY} (hs : s < S) (hS : S ≤ 8) (hY : ∀ post : Int32 → SY → Prop, post act v1 → wpY_came post (lm, sr, nI S, wy, sp, ya, se, fl, vv, vt, ot, ra, br, oc, it, le, tk, cn, kd, nu, lf, la, pc, yb, yh, yk, ho, ap, rd, si, vs, os) (nI s)) (post : Int32 → SY → Prop) (nf : Nat) (h : ny_A post nf s act v1) : ny_W post (nf + 1) (nI s) 1 0 (lm, sr, nI S, wy, sp, ya, se, fl, vv, vt, ot, ra, br, oc, it, le, tk, cn, kd, nu, lf, la, pc, yb, yh, yk, ho, ap, rd, si, vs, os) := by
  have := ny_77 post nf h
  obtain ⟨a1, a2, a3, a4, a5, a6, a7, a8, a9, a10, a11, a12, a13, a14, a15, a16, a17, a18, a19, a20, a21, a22, a23, a24, a25, a26, a27, a28, a29, a30, a31, a32⟩ := v1
  exact br_f (nI_ge hs (by omega)) (br_t (nI_pos' (by omega)) (br_t rfl (br_t rfl (hY _ this))))
theorem ny_en {act : Int32} {v1 : SY} (hs : s < S) (hS : S ≤ 8) (hY : ∀ post : Int32 → SY → Prop, post act v1 → wpY_ended post (lm, sr, nI S, wy, sp, ya, se, fl, vv, vt, ot, ra, br, oc, it, le, tk, cn, kd, nu, lf, la, pc, yb, yh, yk, ho, ap, rd, si, vs, os) (nI s)) (post : Int32 → SY → Prop) (nf : Nat) (h : ny_A post nf s act v1) : ny_W post (nf + 1) (nI s) 0 0 (lm, sr, nI S, wy, sp, ya, se, fl, vv, vt, ot, ra, br, oc, it, le, tk, cn, kd, nu, lf, la, pc, yb, yh, yk, ho, ap, rd, si, vs, os) := by
  have := ny_77 post nf h
  obtain ⟨a1, a2, a3, a4, a5, a6, a7, a8, a9, a10, a11, a12, a13, a14, a15, a16, a17, a18, a19, a20, a21, a22, a23, a24, a25, a26, a27, a28, a29, a30, a31, a32⟩ := v1
  exact br_f (nI_ge hs (by omega)) (br_t (nI_pos' (by omega)) (br_t rfl (br_f (by decide) (hY _ this))))
/-- MATCH: the component's two steps, the reference's one -/
theorem cm_11 (hkd : ∀ t, t < S → (kd t).toNatClampNeg ≤ 16) (hS : S ≤ 8) (hL : L ≤ 150) (hs : s < S) (hv : vp_in x 8) (hx : x.toNatClampNeg = s) (h : dd_D S L m le kd nu g e r b 1 (s + 1) q sn ya bg ct ls hd hk hc lf la pc yb yh yk ho) (hk0 : kd s = nI 11) {mm n : Nat} (hmm : mm < 3) (hn : n ≤ 24) (hnu : nu s = nI mm) (hle : le mm = nI n) :
    ∃ (act : Int32) (u1 : SX) (v1 : SY) (P1 : Nat), rn_P S g b 1 (s + 1) < P1 ∧ (∀ post : SX → Prop, post (nI L, pn, wp, nI m, nI S, se, fl, nI q, 0, nI s, 0, y, rs, sn, it, le, pe, op, kd, nu, co, cl, ap, rd, si, upd bg s (vp_nar .boolean 1), upd ct s 0, upd ls s y, hd, hk, hc, vl) → wpX_elementCame post (nI L, pn, wp, nI m, nI S, se, fl, nI q, 0, nI s, 1, y, rs, sn, it, le, pe, op, kd, nu, co, cl, ap, rd, si, bg, ct, ls, hd, hk, hc, vl) x y) ∧
      (∀ post : SX → Prop, post u1 → wpX_stageAsked post (nI L, pn, wp, nI m, nI S, se, fl, nI q, 0, nI s, 0, y, rs, sn, it, le, pe, op, kd, nu, co, cl, ap, rd, si, upd bg s (vp_nar .boolean 1), upd ct s 0, upd ls s y, hd, hk, hc, vl) x) ∧
      (∀ post : Int32 → SY → Prop, post act v1 → wpY_came post (nI L, nI m, nI S, wy, nI q, ya, se, fl, y, vt, ot, ra, br, oc, it, le, tk, cn, kd, nu, lf, la, pc, yb, yh, yk, ho, ap, rd, si, vs, os) x) ∧ rr_N pn wp se wy ra it le pe op kd nu co cl si tk cn L S m P1 (s + 1) act u1 v1 := by
  have hkc : (kd s).toNatClampNeg = 11 := by rw [hk0]; exact nI_clamp (by omega)
  obtain ⟨hP, hD⟩ := md_beg1 (bg' := upd bg s (vp_nar .boolean 1)) (ct' := upd ct s 0) (ls' := upd ls s y) (hc' := hc) (hd' := hd) (hk' := hk) (lf' := lf) (la' := upd la s y) (pc' := upd pc s 0) (yb' := upd yb s (vp_nar .boolean 1)) (yh' := yh) (yk' := yk) (ho' := ho) hkd hS hs h ⟨fun t ht => by simp [pk_un ht], fun i hi => ⟨rfl, rfl⟩, fun i hi => ⟨rfl, rfl⟩⟩ hkc (fun P' hP => by
    refine ⟨by rw [pk_us, pk_us], 0, by omega, pk_us, fun _ => ⟨by rw [pk_us, pk_us], pk_us⟩⟩)
  obtain ⟨act, u1, v1, w1, w2, w3⟩ := mt_in (pn := pn) (wp := wp) (se := se) (fl := fl) (rs := rs) (sn := sn) (it := it) (le := le) (pe := pe) (op := op) (kd := kd) (nu := nu) (co := co) (cl := cl) (ap := ap) (rd := rd) (si := si) (hd := hd) (hk := hk) (hc := hc) (vl := vl) (wy := wy) (ya := ya) (vt := vt) (ot := ot) (ra := ra) (br := br) (oc := oc) (tk := tk) (cn := cn) (lf := lf) (yh := yh) (yk := yk) (ho := ho) (vs := vs) (os := os) (el := y) (vv := y) hkd hS hL hs hv hx hD hk0 (by rw [pk_us, vn_1]; decide) hmm hn hnu hle
  refine ⟨act, u1, v1, _, hP, fun post hp => ?_, w1, fun post hp => ?_, w3⟩
  · subst hx
    exact ⟨hv, nm_r hk0 (br_f (by decide) (br_f (by decide) (br_f (by decide) (br_f (by decide) (br_f (by decide) (br_f (by decide) (br_f (by decide) (br_f (by decide) (br_f (by decide) (br_f (by decide) (br_f (by decide) (br_f (by decide) (br_f (by decide) (br_t rfl (⟨hv, nm_e ⟨hv, nm_e ⟨hv, nm_e hp⟩⟩⟩)))))))))))))))⟩
  · subst hx
    exact ⟨hv, nm_r hk0 (br_f (by decide) (br_f (by decide) (br_f (by decide) (br_f (by decide) (br_f (by decide) (br_f (by decide) (br_f (by decide) (br_f (by decide) (br_f (by decide) (br_f (by decide) (br_f (by decide) (br_f (by decide) (br_f (by decide) (br_t rfl (⟨hv, nm_e ⟨hv, nm_e ⟨hv, nm_e (w2 _ (sy_eta hp))⟩⟩⟩)))))))))))))))⟩
/-- an end comes to a stage that passes it on -/
theorem en_pass (hkd : ∀ t, t < S → (kd t).toNatClampNeg ≤ 16) (hS : S ≤ 8) (hL : L ≤ 150) (hs : s < S) (hv : vp_in x 8) (hx : x.toNatClampNeg = s) (h : dd_D S L m le kd nu g e r b 2 (s + 1) q sn ya bg ct ls hd hk hc lf la pc yb yh yk ho) (hk0 : kd s = nI k) (hk1 : k ≤ 16) (hX : ∀ post : SX → Prop, post (nI L, pn, wp, nI m, nI S, se, fl, nI q, 0, nI (s + 1), 2, el, rs, sn, it, le, pe, op, kd, nu, co, cl, ap, rd, si, bg, ct, ls, hd, hk, hc, vl) → wpX_endCame post (nI L, pn, wp, nI m, nI S, se, fl, nI q, 0, nI s, 2, el, rs, sn, it, le, pe, op, kd, nu, co, cl, ap, rd, si, bg, ct, ls, hd, hk, hc, vl) x) (hY : ∀ post : Int32 → SY → Prop, post 0 (nI L, nI m, nI S, wy, nI q, ya, se, fl, vv, vt, ot, ra, br, oc, it, le, tk, cn, kd, nu, lf, la, pc, yb, yh, yk, ho, ap, rd, si, vs, os) → wpY_ended post (nI L, nI m, nI S, wy, nI q, ya, se, fl, vv, vt, ot, ra, br, oc, it, le, tk, cn, kd, nu, lf, la, pc, yb, yh, yk, ho, ap, rd, si, vs, os) x) :
    ∃ (act : Int32) (u1 : SX) (v1 : SY), (∀ post : SX → Prop, post u1 → wpX_endCame post (nI L, pn, wp, nI m, nI S, se, fl, nI q, 0, nI s, 2, el, rs, sn, it, le, pe, op, kd, nu, co, cl, ap, rd, si, bg, ct, ls, hd, hk, hc, vl) x) ∧ (∀ post : Int32 → SY → Prop, post act v1 → wpY_ended post (nI L, nI m, nI S, wy, nI q, ya, se, fl, vv, vt, ot, ra, br, oc, it, le, tk, cn, kd, nu, lf, la, pc, yb, yh, yk, ho, ap, rd, si, vs, os) x) ∧ rr_N pn wp se wy ra it le pe op kd nu co cl si tk cn L S m (rn_P S g b 2 (s + 1)) (s + 1) act u1 v1 :=
  ⟨0, _, _, hX, hY, md_end hkd hS hs h (k := k) fr_id (Or.inr (Or.inr rfl)) (Nat.le_refl _) h.1 (by rw [hk0]; exact nI_clamp (by omega)) (fun P' hP => dd_mono hk1 (Nat.le_of_lt hP) (dd_get h hs hk0 hk1))⟩
theorem en_9 (hkd : ∀ t, t < S → (kd t).toNatClampNeg ≤ 16) (hS : S ≤ 8) (hL : L ≤ 150) (hs : s < S) (hv : vp_in x 8) (hx : x.toNatClampNeg = s) (h : dd_D S L m le kd nu g e r b 2 (s + 1) q sn ya bg ct ls hd hk hc lf la pc yb yh yk ho) (hk0 : kd s = nI 9) {mm n : Nat} (hmm : mm < 3) (hn : n ≤ 24) (hnu : nu s = nI mm) (hle : le mm = nI n) :
    ∃ (act : Int32) (u1 : SX) (v1 : SY) (P1 : Nat), rn_P S g b 2 (s + 1) < P1 ∧ (∀ post : SX → Prop, post (nI L, pn, wp, nI m, nI S, se, fl, nI q, 0, nI s, 0, el, rs, sn, it, le, pe, op, kd, nu, co, cl, ap, rd, si, upd bg s (vp_nar .boolean 1), upd ct s 0, ls, hd, hk, hc, vl) → wpX_endCame post (nI L, pn, wp, nI m, nI S, se, fl, nI q, 0, nI s, 2, el, rs, sn, it, le, pe, op, kd, nu, co, cl, ap, rd, si, bg, ct, ls, hd, hk, hc, vl) x) ∧
      (∀ post : SX → Prop, post u1 → wpX_stageAsked post (nI L, pn, wp, nI m, nI S, se, fl, nI q, 0, nI s, 0, el, rs, sn, it, le, pe, op, kd, nu, co, cl, ap, rd, si, upd bg s (vp_nar .boolean 1), upd ct s 0, ls, hd, hk, hc, vl) x) ∧
      (∀ post : Int32 → SY → Prop, post act v1 → wpY_ended post (nI L, nI m, nI S, wy, nI q, ya, se, fl, vv, vt, ot, ra, br, oc, it, le, tk, cn, kd, nu, lf, la, pc, yb, yh, yk, ho, ap, rd, si, vs, os) x) ∧ rr_N pn wp se wy ra it le pe op kd nu co cl si tk cn L S m P1 (s + 1) act u1 v1 := by
  have hkc : (kd s).toNatClampNeg = 9 := by rw [hk0]; exact nI_clamp (by omega)
  obtain ⟨hbb, j, hj, hyp, hj0, _⟩ := dd_get h hs hk0 (by omega)
  have hb0 : b s = 0 := h.2.2.2.2.2.2.1 s hs (Or.inr ⟨rfl, by decide⟩) (by rw [hkc]; simp [rn_cl])
  have := hj0 hb0
  subst this
  obtain ⟨hP, hD⟩ := md_beg (bg' := upd bg s (vp_nar .boolean 1)) (ct' := upd ct s 0) (ls' := ls) (hc' := hc) (hd' := hd) (hk' := hk) (lf' := lf) (la' := la) (pc' := pc) (yb' := upd yb s (vp_nar .boolean 1)) (yh' := yh) (yk' := yk) (ho' := ho) hkd hS hs h ⟨fun t ht => by simp [pk_un ht], fun i hi => ⟨rfl, rfl⟩, fun i hi => ⟨rfl, rfl⟩⟩ (by simp [rn_cl]) hkc (fun P' hP => by
    refine ⟨⟨by rw [pk_us, pk_us], Or.inr ⟨rfl, by rw [pk_us, vn_1]⟩⟩, 0, by omega, hyp, fun z => absurd z (by decide), fun _ => by rw [pk_us, Nat.zero_min]; rfl⟩)
  obtain ⟨act, u1, v1, w1, w2, w3⟩ := th_in (pn := pn) (wp := wp) (se := se) (fl := fl) (el := el) (rs := rs) (sn := sn) (it := it) (le := le) (pe := pe) (op := op) (kd := kd) (nu := nu) (co := co) (cl := cl) (ap := ap) (rd := rd) (si := si) (ls := ls) (hd := hd) (hk := hk) (hc := hc) (vl := vl) (wy := wy) (ya := ya) (vv := vv) (vt := vt) (ot := ot) (ra := ra) (br := br) (oc := oc) (tk := tk) (cn := cn) (lf := lf) (la := la) (pc := pc) (yh := yh) (yk := yk) (ho := ho) (vs := vs) (os := os) hkd hS hL hs hv hx hD hk0 (if_pos rfl) hmm hn hnu hle
  refine ⟨act, u1, v1, _, hP, fun post hp => ?_, w1, fun post hp => ?_, w3⟩
  · subst hx
    exact ⟨hv, nm_r hk0 (br_f (by decide) (br_f (by decide) (br_t rfl (⟨hv, nm_e ⟨hv, nm_e hp⟩⟩))))⟩
  · subst hx
    exact ⟨hv, nm_r hk0 (br_f (by decide) (br_t rfl ⟨hv, nm_e (br_t rfl ⟨hv, hv, hv, nm_e (w2 _ (sy_eta hp))⟩)⟩))⟩
theorem en_15 (hkd : ∀ t, t < S → (kd t).toNatClampNeg ≤ 16) (hS : S ≤ 8) (hL : L ≤ 150) (hs : s < S) (hv : vp_in x 8) (hx : x.toNatClampNeg = s) (h : dd_D S L m le kd nu g e r b 2 (s + 1) q sn ya bg ct ls hd hk hc lf la pc yb yh yk ho) (hk0 : kd s = nI 15) :
    ∃ (act : Int32) (u1 : SX) (v1 : SY) (P1 : Nat), rn_P S g b 2 (s + 1) < P1 ∧ (∀ post : SX → Prop, post (nI L, pn, wp, nI m, nI S, se, fl, nI q, 0, nI s, 0, el, rs, sn, it, le, pe, op, kd, nu, co, cl, ap, rd, si, upd bg s (vp_nar .boolean 1), upd ct s 0, ls, hd, hk, hc, vl) → wpX_endCame post (nI L, pn, wp, nI m, nI S, se, fl, nI q, 0, nI s, 2, el, rs, sn, it, le, pe, op, kd, nu, co, cl, ap, rd, si, bg, ct, ls, hd, hk, hc, vl) x) ∧
      (∀ post : SX → Prop, post u1 → wpX_stageAsked post (nI L, pn, wp, nI m, nI S, se, fl, nI q, 0, nI s, 0, el, rs, sn, it, le, pe, op, kd, nu, co, cl, ap, rd, si, upd bg s (vp_nar .boolean 1), upd ct s 0, ls, hd, hk, hc, vl) x) ∧
      (∀ post : Int32 → SY → Prop, post act v1 → wpY_ended post (nI L, nI m, nI S, wy, nI q, ya, se, fl, vv, vt, ot, ra, br, oc, it, le, tk, cn, kd, nu, lf, la, pc, yb, yh, yk, ho, ap, rd, si, vs, os) x) ∧ rr_N pn wp se wy ra it le pe op kd nu co cl si tk cn L S m P1 (s + 1) act u1 v1 := by
  have hkc : (kd s).toNatClampNeg = 15 := by rw [hk0]; exact nI_clamp (by omega)
  obtain ⟨hbb, j, hj, hhc, hho, hj0, _, heq⟩ := dd_get h hs hk0 (by omega)
  have hb0 : b s = 0 := h.2.2.2.2.2.2.1 s hs (Or.inr ⟨rfl, by decide⟩) (by rw [hkc]; simp [rn_cl])
  have := hj0 hb0
  subst this
  obtain ⟨hP, hD⟩ := md_beg (bg' := upd bg s (vp_nar .boolean 1)) (ct' := upd ct s 0) (ls' := ls) (hc' := hc) (hd' := hd) (hk' := hk) (lf' := lf) (la' := la) (pc' := upd pc s (ho s - 1)) (yb' := upd yb s (vp_nar .boolean 1)) (yh' := yh) (yk' := yk) (ho' := ho) hkd hS hs h ⟨fun t ht => by simp [pk_un ht], fun i hi => ⟨rfl, rfl⟩, fun i hi => ⟨rfl, rfl⟩⟩ (by simp [rn_cl]) hkc (fun P' hP => by
    refine ⟨⟨by rw [pk_us, pk_us], Or.inr ⟨rfl, by rw [pk_us, vn_1]⟩⟩, 0, hj, hhc, hho, fun z => absurd z (by decide), fun _ => ⟨pk_us, ?_⟩, heq⟩
    rw [pk_us, hho]; exact rn_pred (r s))
  obtain ⟨act, u1, v1, w1, w2, w3⟩ := rv_in (pn := pn) (wp := wp) (se := se) (fl := fl) (el := el) (rs := rs) (sn := sn) (it := it) (le := le) (pe := pe) (op := op) (kd := kd) (nu := nu) (co := co) (cl := cl) (ap := ap) (rd := rd) (si := si) (ls := ls) (hd := hd) (hk := hk) (hc := hc) (vl := vl) (wy := wy) (ya := ya) (vv := vv) (vt := vt) (ot := ot) (ra := ra) (br := br) (oc := oc) (tk := tk) (cn := cn) (lf := lf) (la := la) (yh := yh) (yk := yk) (ho := ho) (vs := vs) (os := os) hkd hS hL hs hv hx hD hk0 (if_pos rfl)
  refine ⟨act, u1, v1, _, hP, fun post hp => ?_, w1, fun post hp => ?_, w3⟩
  · subst hx
    exact ⟨hv, nm_r hk0 (br_f (by decide) (br_f (by decide) (br_f (by decide) (br_f (by decide) (br_f (by decide) (br_f (by decide) (br_f (by decide) (br_f (by decide) (br_t rfl (⟨hv, nm_e ⟨hv, nm_e hp⟩⟩))))))))))⟩
  · subst hx
    exact ⟨hv, nm_r hk0 (br_t (by decide) ⟨hv, nm_e (br_f (by decide) (br_t rfl ⟨hv, hv, nm_e (w2 _ (sy_eta hp))⟩))⟩)⟩
theorem en_14 (hkd : ∀ t, t < S → (kd t).toNatClampNeg ≤ 16) (hS : S ≤ 8) (hL : L ≤ 150) (hs : s < S) (hv : vp_in x 8) (hx : x.toNatClampNeg = s) (h : dd_D S L m le kd nu g e r b 2 (s + 1) q sn ya bg ct ls hd hk hc lf la pc yb yh yk ho) (hk0 : kd s = nI 14) :
    ∃ (act : Int32) (u1 : SX) (v1 : SY) (P1 : Nat), rn_P S g b 2 (s + 1) < P1 ∧ (∀ post : SX → Prop, post (nI L, pn, wp, nI m, nI S, se, fl, nI q, 0, nI s, 0, el, rs, sn, it, le, pe, op, kd, nu, co, cl, ap, rd, si, upd bg s (vp_nar .boolean 1), upd ct s 0, ls, hd, hk, hc, vl) → wpX_endCame post (nI L, pn, wp, nI m, nI S, se, fl, nI q, 0, nI s, 2, el, rs, sn, it, le, pe, op, kd, nu, co, cl, ap, rd, si, bg, ct, ls, hd, hk, hc, vl) x) ∧
      (∀ post : SX → Prop, post u1 → wpX_stageAsked post (nI L, pn, wp, nI m, nI S, se, fl, nI q, 0, nI s, 0, el, rs, sn, it, le, pe, op, kd, nu, co, cl, ap, rd, si, upd bg s (vp_nar .boolean 1), upd ct s 0, ls, hd, hk, hc, vl) x) ∧
      (∀ post : Int32 → SY → Prop, post act v1 → wpY_ended post (nI L, nI m, nI S, wy, nI q, ya, se, fl, vv, vt, ot, ra, br, oc, it, le, tk, cn, kd, nu, lf, la, pc, yb, yh, yk, ho, ap, rd, si, vs, os) x) ∧ rr_N pn wp se wy ra it le pe op kd nu co cl si tk cn L S m P1 (s + 1) act u1 v1 := by
  have hkc : (kd s).toNatClampNeg = 14 := by rw [hk0]; exact nI_clamp (by omega)
  obtain ⟨hbb, j, hj, hhc, hho, hyp, hj0, _, hsort⟩ := dd_get h hs hk0 (by omega)
  have hb0 : b s = 0 := h.2.2.2.2.2.2.1 s hs (Or.inr ⟨rfl, by decide⟩) (by rw [hkc]; simp [rn_cl])
  have := hj0 hb0
  subst this
  obtain ⟨hP, hD⟩ := md_beg (bg' := upd bg s (vp_nar .boolean 1)) (ct' := upd ct s 0) (ls' := ls) (hc' := hc) (hd' := hd) (hk' := hk) (lf' := lf) (la' := la) (pc' := pc) (yb' := upd yb s (vp_nar .boolean 1)) (yh' := yh) (yk' := yk) (ho' := ho) hkd hS hs h ⟨fun t ht => by simp [pk_un ht], fun i hi => ⟨rfl, rfl⟩, fun i hi => ⟨rfl, rfl⟩⟩ (by simp [rn_cl]) hkc (fun P' hP => by
    refine ⟨⟨by rw [pk_us, pk_us], Or.inr ⟨rfl, by rw [pk_us, vn_1]⟩⟩, 0, hj, hhc, hho, hyp, fun z => absurd z (by decide), fun _ => pk_us, hsort⟩)
  obtain ⟨act, u1, v1, w1, w2, w3⟩ := so_in (pn := pn) (wp := wp) (se := se) (fl := fl) (el := el) (rs := rs) (sn := sn) (it := it) (le := le) (pe := pe) (op := op) (kd := kd) (nu := nu) (co := co) (cl := cl) (ap := ap) (rd := rd) (si := si) (ls := ls) (hd := hd) (hk := hk) (hc := hc) (vl := vl) (wy := wy) (ya := ya) (vv := vv) (vt := vt) (ot := ot) (ra := ra) (br := br) (oc := oc) (tk := tk) (cn := cn) (lf := lf) (la := la) (pc := pc) (yh := yh) (yk := yk) (ho := ho) (vs := vs) (os := os) hkd hS hL hs hv hx hD hk0 (if_pos rfl)
  refine ⟨act, u1, v1, _, hP, fun post hp => ?_, w1, fun post hp => ?_, w3⟩
  · subst hx
    exact ⟨hv, nm_r hk0 (br_f (by decide) (br_f (by decide) (br_f (by decide) (br_f (by decide) (br_f (by decide) (br_f (by decide) (br_f (by decide) (br_t rfl (⟨hv, nm_e ⟨hv, nm_e hp⟩⟩)))))))))⟩
  · subst hx
    exact ⟨hv, nm_r hk0 (br_t (by decide) ⟨hv, nm_e (br_f (by decide) (br_f (by decide) (w2 _ (sy_eta hp))))⟩)⟩
theorem en_16 (hkd : ∀ t, t < S → (kd t).toNatClampNeg ≤ 16) (hS : S ≤ 8) (hL : L ≤ 150) (hs : s < S) (hv : vp_in x 8) (hx : x.toNatClampNeg = s) (h : dd_D S L m le kd nu g e r b 2 (s + 1) q sn ya bg ct ls hd hk hc lf la pc yb yh yk ho) (hk0 : kd s = nI 16) :
    ∃ (act : Int32) (u1 : SX) (v1 : SY) (P1 : Nat), rn_P S g b 2 (s + 1) < P1 ∧ (∀ post : SX → Prop, post (nI L, pn, wp, nI m, nI S, se, fl, nI q, 0, nI s, 0, el, rs, sn, it, le, pe, op, kd, nu, co, cl, ap, rd, si, upd bg s (vp_nar .boolean 1), upd ct s 0, ls, hd, hk, hc, vl) → wpX_endCame post (nI L, pn, wp, nI m, nI S, se, fl, nI q, 0, nI s, 2, el, rs, sn, it, le, pe, op, kd, nu, co, cl, ap, rd, si, bg, ct, ls, hd, hk, hc, vl) x) ∧
      (∀ post : SX → Prop, post u1 → wpX_stageAsked post (nI L, pn, wp, nI m, nI S, se, fl, nI q, 0, nI s, 0, el, rs, sn, it, le, pe, op, kd, nu, co, cl, ap, rd, si, upd bg s (vp_nar .boolean 1), upd ct s 0, ls, hd, hk, hc, vl) x) ∧
      (∀ post : Int32 → SY → Prop, post act v1 → wpY_ended post (nI L, nI m, nI S, wy, nI q, ya, se, fl, vv, vt, ot, ra, br, oc, it, le, tk, cn, kd, nu, lf, la, pc, yb, yh, yk, ho, ap, rd, si, vs, os) x) ∧ rr_N pn wp se wy ra it le pe op kd nu co cl si tk cn L S m P1 (s + 1) act u1 v1 := by
  have hkc : (kd s).toNatClampNeg = 16 := by rw [hk0]; exact nI_clamp (by omega)
  obtain ⟨hbb, j, hj, hhc, hho, hyp, hj0, _, heq⟩ := dd_get h hs hk0 (by omega)
  have hb0 : b s = 0 := h.2.2.2.2.2.2.1 s hs (Or.inr ⟨rfl, by decide⟩) (by rw [hkc]; simp [rn_cl])
  have := hj0 hb0
  subst this
  obtain ⟨hP, hD⟩ := md_beg (bg' := upd bg s (vp_nar .boolean 1)) (ct' := upd ct s 0) (ls' := ls) (hc' := hc) (hd' := hd) (hk' := hk) (lf' := lf) (la' := la) (pc' := pc) (yb' := upd yb s (vp_nar .boolean 1)) (yh' := yh) (yk' := yk) (ho' := ho) hkd hS hs h ⟨fun t ht => by simp [pk_un ht], fun i hi => ⟨rfl, rfl⟩, fun i hi => ⟨rfl, rfl⟩⟩ (by simp [rn_cl]) hkc (fun P' hP => by
    refine ⟨⟨by rw [pk_us, pk_us], Or.inr ⟨rfl, by rw [pk_us, vn_1]⟩⟩, 0, hj, hhc, hho, hyp, fun z => absurd z (by decide), fun _ => pk_us, heq⟩)
  obtain ⟨act, u1, v1, w1, w2, w3⟩ := gr_in (pn := pn) (wp := wp) (se := se) (fl := fl) (el := el) (rs := rs) (sn := sn) (it := it) (le := le) (pe := pe) (op := op) (kd := kd) (nu := nu) (co := co) (cl := cl) (ap := ap) (rd := rd) (si := si) (ls := ls) (hd := hd) (hk := hk) (hc := hc) (vl := vl) (wy := wy) (ya := ya) (vv := vv) (vt := vt) (ot := ot) (ra := ra) (br := br) (oc := oc) (tk := tk) (cn := cn) (lf := lf) (la := la) (pc := pc) (yh := yh) (yk := yk) (ho := ho) (vs := vs) (os := os) hkd hS hL hs hv hx hD hk0 (if_pos rfl)
  refine ⟨act, u1, v1, _, hP, fun post hp => ?_, w1, fun post hp => ?_, w3⟩
  · subst hx
    exact ⟨hv, nm_r hk0 (br_f (by decide) (br_f (by decide) (br_f (by decide) (br_f (by decide) (br_f (by decide) (br_f (by decide) (br_f (by decide) (br_f (by decide) (br_f (by decide) (br_t rfl (⟨hv, nm_e ⟨hv, nm_e hp⟩⟩)))))))))))⟩
  · subst hx
    exact ⟨hv, nm_r hk0 (br_t (by decide) ⟨hv, nm_e (br_f (by decide) (br_f (by decide) (w2 _ (sy_eta hp))))⟩)⟩
end
end
section
section
variable {lm pn wp sr sc se fl sp pt sg el rs sn wy ya vv vt ot ra br : Int32} {en oc : Int64} {it le pe op kd nu co cl ap rd si bg ct ls hd hk hc vl tk cn lf la pc yb yh yk ho vs os : Nat → Int32}
variable {bg' ct' ls' hd' hk' hc' lf' la' pc' yb' yh' yk' ho' : Nat → Int32} {S L m q s sgn k : Nat} {g e r b : Nat → Nat} {x y : Int32}
theorem ms_hkd (hSt : ∀ t, t < S → rl_St kd nu co cl tk cn t) : ∀ t, t < S → (kd t).toNatClampNeg ≤ 16 := by
  intro t ht
  obtain ⟨k, h1, h2, _⟩ := hSt t ht
  rw [h2, nI_clamp (by omega)]; exact h1
theorem ms_ls (hle : rl_L le) {mm : Nat} (h : mm < 3) : ∃ n : Nat, n ≤ 24 ∧ le mm = nI n := hle mm h
theorem ms_0 (hSt : ∀ t, t < S → rl_St kd nu co cl tk cn t) (hle : rl_L le) (hS : S ≤ 8) (hL : L ≤ 150) (hs : s < S) (h : dd_D S L m le kd nu g e r b 0 (s + 1) q sn ya bg ct ls hd hk hc lf la pc yb yh yk ho) :
    ∃ (act : Int32) (u1 : SX) (v1 : SY), (∀ (post : Int32 → SX → Prop) (nf t : Nat), t < 1000000 → nx_W post nf (nI (t + 1)) u1 → nx_W post (nf + 1) (nI t) (nI L, pn, wp, nI m, nI S, se, fl, nI q, 0, nI s, 0, el, rs, sn, it, le, pe, op, kd, nu, co, cl, ap, rd, si, bg, ct, ls, hd, hk, hc, vl)) ∧ (∀ (post : Int32 → SY → Prop) (nf : Nat), ny_A post nf s act v1 → ny_W post (nf + 1) (nI s) 2 1 (nI L, nI m, nI S, wy, nI q, ya, se, fl, vv, vt, ot, ra, br, oc, it, le, tk, cn, kd, nu, lf, la, pc, yb, yh, yk, ho, ap, rd, si, vs, os)) ∧ rr_N pn wp se wy ra it le pe op kd nu co cl si tk cn L S m (rn_P S g b 0 (s + 1)) (s + 1) act u1 v1 := by
  have hkd := ms_hkd hSt
  have hv : vp_in (nI s) 8 := vp_in_nI (by omega) (by omega)
  have hx : (nI s).toNatClampNeg = s := nI_clamp (by omega)
  have key : ∃ (act : Int32) (u1 : SX) (v1 : SY), (∀ post : SX → Prop, post u1 → wpX_stageAsked post (nI L, pn, wp, nI m, nI S, se, fl, nI q, 0, nI s, 0, el, rs, sn, it, le, pe, op, kd, nu, co, cl, ap, rd, si, bg, ct, ls, hd, hk, hc, vl) (nI s)) ∧ (∀ post : Int32 → SY → Prop, post act v1 → wpY_asked post (nI L, nI m, nI S, wy, nI q, ya, se, fl, vv, vt, ot, ra, br, oc, it, le, tk, cn, kd, nu, lf, la, pc, yb, yh, yk, ho, ap, rd, si, vs, os) (nI s)) ∧ rr_N pn wp se wy ra it le pe op kd nu co cl si tk cn L S m (rn_P S g b 0 (s + 1)) (s + 1) act u1 v1 := by
    obtain ⟨k, h1, h2, h3, h4⟩ := hSt s hs
    rcases st_17 h1 with rfl | rfl | rfl | rfl | rfl | rfl | rfl | rfl | rfl | rfl | rfl | rfl | rfl | rfl | rfl | rfl | rfl
    · exact as_0 hkd hS hL hs hv hx h h2
    · exact as_1 hkd hS hL hs hv hx h h2
    · exact as_2 hkd hS hL hs hv hx h h2
    · exact as_3 hkd hS hL hs hv hx h h2
    · exact as_4 hkd hS hL hs hv hx h h2
    · exact as_5 hkd hS hL hs hv hx h h2
    · exact as_6 hkd hS hL hs hv hx h h2
    · exact as_7 hkd hS hL hs hv hx h h2 (h4 (by decide))
    · exact as_8 hkd hS hL hs hv hx h h2
    · obtain ⟨mm, hm1, hm2⟩ := h3 (by simp)
      obtain ⟨n, hn1, hn2⟩ := ms_ls hle hm1
      exact as_9 hkd hS hL hs hv hx h h2 hm1 hn1 hm2 hn2
    · exact as_10 hkd hS hL hs hv hx h h2
    · obtain ⟨mm, hm1, hm2⟩ := h3 (by simp)
      obtain ⟨n, hn1, hn2⟩ := ms_ls hle hm1
      exact as_11 hkd hS hL hs hv hx h h2 hm1 hn1 hm2 hn2
    · exact as_12 hkd hS hL hs hv hx h h2
    · exact as_13 hkd hS hL hs hv hx h h2
    · exact as_14 hkd hS hL hs hv hx h h2
    · exact as_15 hkd hS hL hs hv hx h h2
    · exact as_16 hkd hS hL hs hv hx h h2
  obtain ⟨act, u1, v1, w1, w2, w3⟩ := key
  exact ⟨act, u1, v1, nx_as hs hS w1, ny_as hs hS w2, w3⟩
theorem ms_1 (hSt : ∀ t, t < S → rl_St kd nu co cl tk cn t) (hle : rl_L le) (hS : S ≤ 8) (hL : L ≤ 150) (hs : s < S) (h : dd_D S L m le kd nu g e r b 1 (s + 1) q sn ya bg ct ls hd hk hc lf la pc yb yh yk ho) :
    ∃ (act : Int32) (u1 : SX) (v1 : SY) (kx P1 : Nat), 1 ≤ kx ∧ kx ≤ 2 ∧ rn_P S g b 1 (s + 1) + kx ≤ P1 + 1 ∧ (∀ (post : Int32 → SX → Prop) (nf t : Nat), t + kx ≤ 1000000 → nx_W post nf (nI (t + kx)) u1 → nx_W post (nf + kx) (nI t) (nI L, pn, wp, nI m, nI S, se, fl, nI q, 0, nI s, 1, y, rs, sn, it, le, pe, op, kd, nu, co, cl, ap, rd, si, bg, ct, ls, hd, hk, hc, vl)) ∧ (∀ (post : Int32 → SY → Prop) (nf : Nat), ny_A post nf s act v1 → ny_W post (nf + 1) (nI s) 1 0 (nI L, nI m, nI S, wy, nI q, ya, se, fl, y, vt, ot, ra, br, oc, it, le, tk, cn, kd, nu, lf, la, pc, yb, yh, yk, ho, ap, rd, si, vs, os)) ∧ rr_N pn wp se wy ra it le pe op kd nu co cl si tk cn L S m P1 (s + 1) act u1 v1 := by
  have hkd := ms_hkd hSt
  have hv : vp_in (nI s) 8 := vp_in_nI (by omega) (by omega)
  have hx : (nI s).toNatClampNeg = s := nI_clamp (by omega)
  obtain ⟨k, h1, h2, h3, h4⟩ := hSt s hs
  have one : (∃ (act : Int32) (u1 : SX) (v1 : SY), (∀ post : SX → Prop, post u1 → wpX_elementCame post (nI L, pn, wp, nI m, nI S, se, fl, nI q, 0, nI s, 1, y, rs, sn, it, le, pe, op, kd, nu, co, cl, ap, rd, si, bg, ct, ls, hd, hk, hc, vl) (nI s) y) ∧ (∀ post : Int32 → SY → Prop, post act v1 → wpY_came post (nI L, nI m, nI S, wy, nI q, ya, se, fl, y, vt, ot, ra, br, oc, it, le, tk, cn, kd, nu, lf, la, pc, yb, yh, yk, ho, ap, rd, si, vs, os) (nI s)) ∧ rr_N pn wp se wy ra it le pe op kd nu co cl si tk cn L S m (rn_P S g b 1 (s + 1)) (s + 1) act u1 v1) →
      ∃ (act : Int32) (u1 : SX) (v1 : SY) (kx P1 : Nat), 1 ≤ kx ∧ kx ≤ 2 ∧ rn_P S g b 1 (s + 1) + kx ≤ P1 + 1 ∧ (∀ (post : Int32 → SX → Prop) (nf t : Nat), t + kx ≤ 1000000 → nx_W post nf (nI (t + kx)) u1 → nx_W post (nf + kx) (nI t) (nI L, pn, wp, nI m, nI S, se, fl, nI q, 0, nI s, 1, y, rs, sn, it, le, pe, op, kd, nu, co, cl, ap, rd, si, bg, ct, ls, hd, hk, hc, vl)) ∧ (∀ (post : Int32 → SY → Prop) (nf : Nat), ny_A post nf s act v1 → ny_W post (nf + 1) (nI s) 1 0 (nI L, nI m, nI S, wy, nI q, ya, se, fl, y, vt, ot, ra, br, oc, it, le, tk, cn, kd, nu, lf, la, pc, yb, yh, yk, ho, ap, rd, si, vs, os)) ∧ rr_N pn wp se wy ra it le pe op kd nu co cl si tk cn L S m P1 (s + 1) act u1 v1 := by
    rintro ⟨act, u1, v1, w1, w2, w3⟩
    exact ⟨act, u1, v1, 1, _, by omega, by omega, by omega, fun post nf t ht hp => nx_cm hs hS w1 post nf t (by omega) hp, ny_cm hs hS w2, w3⟩
  rcases st_17 h1 with rfl | rfl | rfl | rfl | rfl | rfl | rfl | rfl | rfl | rfl | rfl | rfl | rfl | rfl | rfl | rfl | rfl
  · exact one (cm_0 hkd hS hL hs hv hx h h2 (h4 (by decide)))
  · exact one (cm_1 hkd hS hL hs hv hx h h2 (h4 (by decide)))
  · exact one (cm_2 hkd hS hL hs hv hx h h2)
  · exact one (cm_3 hkd hS hL hs hv hx h h2)
  · exact one (cm_4 hkd hS hL hs hv hx h h2 (h4 (by decide)))
  · exact one (cm_5 hkd hS hL hs hv hx h h2 (h4 (by decide)))
  · exact one (cm_6 hkd hS hL hs hv hx h h2)
  · exact one (cm_7 hkd hS hL hs hv hx h h2)
  · exact one (cm_8 hkd hS hL hs hv hx h h2)
  · exact one (cm_9 hkd hS hL hs hv hx h h2)
  · obtain ⟨mm, hm1, hm2⟩ := h3 (by simp)
    obtain ⟨n, hn1, hn2⟩ := ms_ls hle hm1
    exact one (cm_10 hkd hS hL hs hv hx h h2 (h4 (by decide)) hm1 hn1 hm2 hn2)
  · obtain ⟨mm, hm1, hm2⟩ := h3 (by simp)
    obtain ⟨n, hn1, hn2⟩ := ms_ls hle hm1
    obtain ⟨act, u1, v1, P1, hP, w1, w2, w3, w4⟩ := cm_11 (pn := pn) (wp := wp) (se := se) (fl := fl) (rs := rs) (sn := sn) (it := it) (le := le) (pe := pe) (op := op) (kd := kd) (nu := nu) (co := co) (cl := cl) (ap := ap) (rd := rd) (si := si) (bg := bg) (ct := ct) (ls := ls) (hd := hd) (hk := hk) (hc := hc) (vl := vl) (wy := wy) (ya := ya) (vt := vt) (ot := ot) (ra := ra) (br := br) (oc := oc) (tk := tk) (cn := cn) (lf := lf) (la := la) (pc := pc) (yb := yb) (yh := yh) (yk := yk) (ho := ho) (vs := vs) (os := os) (y := y) hkd hS hL hs hv hx h h2 hm1 hn1 hm2 hn2
    exact ⟨act, u1, v1, 2, P1, by omega, by omega, by omega, fun post nf t ht hp => nx_cm hs hS w1 post (nf + 1) t (by omega) (nx_as hs hS w2 post nf (t + 1) (by omega) hp), ny_cm hs hS w3, w4⟩
  · exact one (cm_12 hkd hS hL hs hv hx h h2 (h4 (by decide)))
  · exact one (cm_13 hkd hS hL hs hv hx h h2)
  · exact one (cm_14 hkd hS hL hs hv hx h h2 (h4 (by decide)))
  · exact one (cm_15 hkd hS hL hs hv hx h h2)
  · exact one (cm_16 hkd hS hL hs hv hx h h2 (h4 (by decide)))
theorem ms_2 (hSt : ∀ t, t < S → rl_St kd nu co cl tk cn t) (hle : rl_L le) (hS : S ≤ 8) (hL : L ≤ 150) (hs : s < S) (h : dd_D S L m le kd nu g e r b 2 (s + 1) q sn ya bg ct ls hd hk hc lf la pc yb yh yk ho) :
    ∃ (act : Int32) (u1 : SX) (v1 : SY) (kx P1 : Nat), 1 ≤ kx ∧ kx ≤ 2 ∧ rn_P S g b 2 (s + 1) + kx ≤ P1 + 1 ∧ (∀ (post : Int32 → SX → Prop) (nf t : Nat), t + kx ≤ 1000000 → nx_W post nf (nI (t + kx)) u1 → nx_W post (nf + kx) (nI t) (nI L, pn, wp, nI m, nI S, se, fl, nI q, 0, nI s, 2, el, rs, sn, it, le, pe, op, kd, nu, co, cl, ap, rd, si, bg, ct, ls, hd, hk, hc, vl)) ∧ (∀ (post : Int32 → SY → Prop) (nf : Nat), ny_A post nf s act v1 → ny_W post (nf + 1) (nI s) 0 0 (nI L, nI m, nI S, wy, nI q, ya, se, fl, vv, vt, ot, ra, br, oc, it, le, tk, cn, kd, nu, lf, la, pc, yb, yh, yk, ho, ap, rd, si, vs, os)) ∧ rr_N pn wp se wy ra it le pe op kd nu co cl si tk cn L S m P1 (s + 1) act u1 v1 := by
  have hkd := ms_hkd hSt
  have hv : vp_in (nI s) 8 := vp_in_nI (by omega) (by omega)
  have hx : (nI s).toNatClampNeg = s := nI_clamp (by omega)
  obtain ⟨k, h1, h2, h3, h4⟩ := hSt s hs
  have one : (∃ (act : Int32) (u1 : SX) (v1 : SY), (∀ post : SX → Prop, post u1 → wpX_endCame post (nI L, pn, wp, nI m, nI S, se, fl, nI q, 0, nI s, 2, el, rs, sn, it, le, pe, op, kd, nu, co, cl, ap, rd, si, bg, ct, ls, hd, hk, hc, vl) (nI s)) ∧ (∀ post : Int32 → SY → Prop, post act v1 → wpY_ended post (nI L, nI m, nI S, wy, nI q, ya, se, fl, vv, vt, ot, ra, br, oc, it, le, tk, cn, kd, nu, lf, la, pc, yb, yh, yk, ho, ap, rd, si, vs, os) (nI s)) ∧ rr_N pn wp se wy ra it le pe op kd nu co cl si tk cn L S m (rn_P S g b 2 (s + 1)) (s + 1) act u1 v1) →
      ∃ (act : Int32) (u1 : SX) (v1 : SY) (kx P1 : Nat), 1 ≤ kx ∧ kx ≤ 2 ∧ rn_P S g b 2 (s + 1) + kx ≤ P1 + 1 ∧ (∀ (post : Int32 → SX → Prop) (nf t : Nat), t + kx ≤ 1000000 → nx_W post nf (nI (t + kx)) u1 → nx_W post (nf + kx) (nI t) (nI L, pn, wp, nI m, nI S, se, fl, nI q, 0, nI s, 2, el, rs, sn, it, le, pe, op, kd, nu, co, cl, ap, rd, si, bg, ct, ls, hd, hk, hc, vl)) ∧ (∀ (post : Int32 → SY → Prop) (nf : Nat), ny_A post nf s act v1 → ny_W post (nf + 1) (nI s) 0 0 (nI L, nI m, nI S, wy, nI q, ya, se, fl, vv, vt, ot, ra, br, oc, it, le, tk, cn, kd, nu, lf, la, pc, yb, yh, yk, ho, ap, rd, si, vs, os)) ∧ rr_N pn wp se wy ra it le pe op kd nu co cl si tk cn L S m P1 (s + 1) act u1 v1 := by
    rintro ⟨act, u1, v1, w1, w2, w3⟩
    exact ⟨act, u1, v1, 1, _, by omega, by omega, by omega, fun post nf t ht hp => nx_en hs hS w1 post nf t (by omega) hp, ny_en hs hS w2, w3⟩
  have hks : kd (nI s).toNatClampNeg = kd s := by rw [hx]
  rcases st_17 h1 with rfl | rfl | rfl | rfl | rfl | rfl | rfl | rfl | rfl | rfl | rfl | rfl | rfl | rfl | rfl | rfl | rfl
  · exact one (en_pass hkd hS hL hs hv hx h h2 (by omega) (fun post hp => ⟨hv, nm_r (hks.trans h2) (br_t (by decide) (xr_end hp))⟩) (fun post hp => ⟨hv, nm_r (hks.trans h2) (br_f (by decide) (br_f (by decide) hp))⟩))
  · exact one (en_pass hkd hS hL hs hv hx h h2 (by omega) (fun post hp => ⟨hv, nm_r (hks.trans h2) (br_t (by decide) (xr_end hp))⟩) (fun post hp => ⟨hv, nm_r (hks.trans h2) (br_f (by decide) (br_f (by decide) hp))⟩))
  · exact one (en_pass hkd hS hL hs hv hx h h2 (by omega) (fun post hp => ⟨hv, nm_r (hks.trans h2) (br_t (by decide) (xr_end hp))⟩) (fun post hp => ⟨hv, nm_r (hks.trans h2) (br_f (by decide) (br_f (by decide) hp))⟩))
  · exact one (en_pass hkd hS hL hs hv hx h h2 (by omega) (fun post hp => ⟨hv, nm_r (hks.trans h2) (br_t (by decide) (xr_end hp))⟩) (fun post hp => ⟨hv, nm_r (hks.trans h2) (br_f (by decide) (br_f (by decide) hp))⟩))
  · exact one (en_pass hkd hS hL hs hv hx h h2 (by omega) (fun post hp => ⟨hv, nm_r (hks.trans h2) (br_t (by decide) (xr_end hp))⟩) (fun post hp => ⟨hv, nm_r (hks.trans h2) (br_f (by decide) (br_f (by decide) hp))⟩))
  · exact one (en_pass hkd hS hL hs hv hx h h2 (by omega) (fun post hp => ⟨hv, nm_r (hks.trans h2) (br_t (by decide) (xr_end hp))⟩) (fun post hp => ⟨hv, nm_r (hks.trans h2) (br_f (by decide) (br_f (by decide) hp))⟩))
  · exact one (en_pass hkd hS hL hs hv hx h h2 (by omega) (fun post hp => ⟨hv, nm_r (hks.trans h2) (br_t (by decide) (xr_end hp))⟩) (fun post hp => ⟨hv, nm_r (hks.trans h2) (br_f (by decide) (br_f (by decide) hp))⟩))
  · exact one (en_pass hkd hS hL hs hv hx h h2 (by omega) (fun post hp => ⟨hv, nm_r (hks.trans h2) (br_t (by decide) (xr_end hp))⟩) (fun post hp => ⟨hv, nm_r (hks.trans h2) (br_f (by decide) (br_f (by decide) hp))⟩))
  · exact one (en_pass hkd hS hL hs hv hx h h2 (by omega) (fun post hp => ⟨hv, nm_r (hks.trans h2) (br_t (by decide) (xr_end hp))⟩) (fun post hp => ⟨hv, nm_r (hks.trans h2) (br_f (by decide) (br_f (by decide) hp))⟩))
  · obtain ⟨mm, hm1, hm2⟩ := h3 (by simp)
    obtain ⟨n, hn1, hn2⟩ := ms_ls hle hm1
    obtain ⟨act, u1, v1, P1, hP, w1, w2, w3, w4⟩ := en_9 (pn := pn) (wp := wp) (se := se) (fl := fl) (el := el) (rs := rs) (sn := sn) (it := it) (le := le) (pe := pe) (op := op) (kd := kd) (nu := nu) (co := co) (cl := cl) (ap := ap) (rd := rd) (si := si) (bg := bg) (ct := ct) (ls := ls) (hd := hd) (hk := hk) (hc := hc) (vl := vl) (wy := wy) (ya := ya) (vv := vv) (vt := vt) (ot := ot) (ra := ra) (br := br) (oc := oc) (tk := tk) (cn := cn) (lf := lf) (la := la) (pc := pc) (yb := yb) (yh := yh) (yk := yk) (ho := ho) (vs := vs) (os := os) hkd hS hL hs hv hx h h2 hm1 hn1 hm2 hn2
    exact ⟨act, u1, v1, 2, P1, by omega, by omega, by omega, fun post nf t ht hp => nx_en hs hS w1 post (nf + 1) t (by omega) (nx_as hs hS w2 post nf (t + 1) (by omega) hp), ny_en hs hS w3, w4⟩
  · exact one (en_pass hkd hS hL hs hv hx h h2 (by omega) (fun post hp => ⟨hv, nm_r (hks.trans h2) (br_f (by decide) (br_f (by decide) (br_f (by decide) (br_t rfl (xr_end hp)))))⟩) (fun post hp => ⟨hv, nm_r (hks.trans h2) (br_f (by decide) (br_f (by decide) hp))⟩))
  · exact one (en_pass hkd hS hL hs hv hx h h2 (by omega) (fun post hp => ⟨hv, nm_r (hks.trans h2) (br_f (by decide) (br_f (by decide) (br_f (by decide) (br_f (by decide) (br_t rfl (xr_end hp))))))⟩) (fun post hp => ⟨hv, nm_r (hks.trans h2) (br_f (by decide) (br_f (by decide) hp))⟩))
  · exact one (en_pass hkd hS hL hs hv hx h h2 (by omega) (fun post hp => ⟨hv, nm_r (hks.trans h2) (br_f (by decide) (br_f (by decide) (br_f (by decide) (br_f (by decide) (br_f (by decide) (br_t rfl (xr_end hp)))))))⟩) (fun post hp => ⟨hv, nm_r (hks.trans h2) (br_f (by decide) (br_f (by decide) hp))⟩))
  · exact one (en_pass hkd hS hL hs hv hx h h2 (by omega) (fun post hp => ⟨hv, nm_r (hks.trans h2) (br_f (by decide) (br_f (by decide) (br_f (by decide) (br_f (by decide) (br_f (by decide) (br_f (by decide) (br_t rfl (xr_end hp))))))))⟩) (fun post hp => ⟨hv, nm_r (hks.trans h2) (br_f (by decide) (br_f (by decide) hp))⟩))
  · obtain ⟨act, u1, v1, P1, hP, w1, w2, w3, w4⟩ := en_14 (pn := pn) (wp := wp) (se := se) (fl := fl) (el := el) (rs := rs) (sn := sn) (it := it) (le := le) (pe := pe) (op := op) (kd := kd) (nu := nu) (co := co) (cl := cl) (ap := ap) (rd := rd) (si := si) (bg := bg) (ct := ct) (ls := ls) (hd := hd) (hk := hk) (hc := hc) (vl := vl) (wy := wy) (ya := ya) (vv := vv) (vt := vt) (ot := ot) (ra := ra) (br := br) (oc := oc) (tk := tk) (cn := cn) (lf := lf) (la := la) (pc := pc) (yb := yb) (yh := yh) (yk := yk) (ho := ho) (vs := vs) (os := os) hkd hS hL hs hv hx h h2
    exact ⟨act, u1, v1, 2, P1, by omega, by omega, by omega, fun post nf t ht hp => nx_en hs hS w1 post (nf + 1) t (by omega) (nx_as hs hS w2 post nf (t + 1) (by omega) hp), ny_en hs hS w3, w4⟩
  · obtain ⟨act, u1, v1, P1, hP, w1, w2, w3, w4⟩ := en_15 (pn := pn) (wp := wp) (se := se) (fl := fl) (el := el) (rs := rs) (sn := sn) (it := it) (le := le) (pe := pe) (op := op) (kd := kd) (nu := nu) (co := co) (cl := cl) (ap := ap) (rd := rd) (si := si) (bg := bg) (ct := ct) (ls := ls) (hd := hd) (hk := hk) (hc := hc) (vl := vl) (wy := wy) (ya := ya) (vv := vv) (vt := vt) (ot := ot) (ra := ra) (br := br) (oc := oc) (tk := tk) (cn := cn) (lf := lf) (la := la) (pc := pc) (yb := yb) (yh := yh) (yk := yk) (ho := ho) (vs := vs) (os := os) hkd hS hL hs hv hx h h2
    exact ⟨act, u1, v1, 2, P1, by omega, by omega, by omega, fun post nf t ht hp => nx_en hs hS w1 post (nf + 1) t (by omega) (nx_as hs hS w2 post nf (t + 1) (by omega) hp), ny_en hs hS w3, w4⟩
  · obtain ⟨act, u1, v1, P1, hP, w1, w2, w3, w4⟩ := en_16 (pn := pn) (wp := wp) (se := se) (fl := fl) (el := el) (rs := rs) (sn := sn) (it := it) (le := le) (pe := pe) (op := op) (kd := kd) (nu := nu) (co := co) (cl := cl) (ap := ap) (rd := rd) (si := si) (bg := bg) (ct := ct) (ls := ls) (hd := hd) (hk := hk) (hc := hc) (vl := vl) (wy := wy) (ya := ya) (vv := vv) (vt := vt) (ot := ot) (ra := ra) (br := br) (oc := oc) (tk := tk) (cn := cn) (lf := lf) (la := la) (pc := pc) (yb := yb) (yh := yh) (yk := yk) (ho := ho) (vs := vs) (os := os) hkd hS hL hs hv hx h h2
    exact ⟨act, u1, v1, 2, P1, by omega, by omega, by omega, fun post nf t ht hp => nx_en hs hS w1 post (nf + 1) t (by omega) (nx_as hs hS w2 post nf (t + 1) (by omega) hp), ny_en hs hS w3, w4⟩
/-- the source list is asked -/
theorem ms_sr (hSt : ∀ t, t < S → rl_St kd nu co cl tk cn t) (hle : rl_L le) (hS : S ≤ 8) (hL : L ≤ 150) (hm : m < 3) (h : dd_D S L m le kd nu g e r b 0 0 q sn ya bg ct ls hd hk hc lf la pc yb yh yk ho) :
    ∃ (act : Int32) (u1 : SX) (v1 : SY), (∀ (post : Int32 → SX → Prop) (nf t : Nat), t < 1000000 → nx_W post nf (nI (t + 1)) u1 → nx_W post (nf + 1) (nI t) (nI L, pn, wp, nI m, nI S, se, fl, nI q, 0, -1, 0, el, rs, sn, it, le, pe, op, kd, nu, co, cl, ap, rd, si, bg, ct, ls, hd, hk, hc, vl)) ∧
      (∀ (post : Int32 → SY → Prop) (nf : Nat), ((act = 3 ∧ post 3 v1) ∨ ((act = 0 ∨ act = 1) ∧ ny_W post nf (nI 0) act 0 v1)) → ny_W post (nf + 1) (-1) 2 1 (nI L, nI m, nI S, wy, nI q, ya, se, fl, vv, vt, ot, ra, br, oc, it, le, tk, cn, kd, nu, lf, la, pc, yb, yh, yk, ho, ap, rd, si, vs, os)) ∧
      ((act = 3 ∧ ro_O pn wp se wy ra it le pe op kd nu co cl si tk cn L S m u1 v1) ∨ (∃ P' : Nat, rn_P S g b 0 0 < P' ∧ ((act = 1 ∧ rr_R pn wp se wy ra it le pe op kd nu co cl si tk cn L S m 1 1 P' u1 v1) ∨ (act = 0 ∧ rr_R pn wp se wy ra it le pe op kd nu co cl si tk cn L S m 2 1 P' u1 v1)))) := by
  have hkd := ms_hkd hSt
  obtain ⟨n, hn1, hn2⟩ := hle m hm
  have hPb := dd_bound hS hL (by omega) h
  obtain ⟨h1, ⟨j, h2a, h2b, h2c⟩, h3, h4, h5, h6, h7, h8⟩ := id h
  have hlm : le (nI m).toNatClampNeg = nI n := by rw [nI_clamp (by omega)]; exact hn2
  have hlc : (le m).toNatClampNeg = n := by rw [hn2, nI_clamp (by omega)]
  rw [hlc] at h2c
  have hmi : vp_in (nI m) 3 := vp_in_nI hm (by omega)
  have hYst : ∀ (act : Int32) (v1 : SY), (∀ post : Int32 → SY → Prop, post act v1 → wpY_fetch post (nI L, nI m, nI S, wy, nI q, nI (j + 1), se, fl, vv, vt, ot, ra, br, oc, it, le, tk, cn, kd, nu, lf, la, pc, yb, yh, yk, ho, ap, rd, si, vs, os) (nI m) (nI j)) → ∀ (post : Int32 → SY → Prop) (nf : Nat), ((act = 3 ∧ post 3 v1) ∨ ((act = 0 ∨ act = 1) ∧ ny_W post nf (nI 0) act 0 v1)) → ny_W post (nf + 1) (-1) 2 1 (nI L, nI m, nI S, wy, nI q, ya, se, fl, vv, vt, ot, ra, br, oc, it, le, tk, cn, kd, nu, lf, la, pc, yb, yh, yk, ho, ap, rd, si, vs, os) := by
    intro act v1 hY post nf hp
    subst h2b
    have h77 : (match v1 with | (a1, a2, a3, a4, a5, a6, a7, a8, a9, a10, a11, a12, a13, a14, a15, a16, a17, a18, a19, a20, a21, a22, a23, a24, a25, a26, a27, a28, a29, a30, a31, a32) => wY_pull_77 post (wY_pull_11 post nf) (-1) act a1 a2 a3 a4 a5 a6 a7 a8 a9 a10 a11 a12 a13 a14 a15 a16 a17 a18 a19 a20 a21 a22 a23 a24 a25 a26 a27 a28 a29 a30 a31 a32) := by
      obtain ⟨a1, a2, a3, a4, a5, a6, a7, a8, a9, a10, a11, a12, a13, a14, a15, a16, a17, a18, a19, a20, a21, a22, a23, a24, a25, a26, a27, a28, a29, a30, a31, a32⟩ := v1
      rcases hp with ⟨rfl, hp⟩ | ⟨ha, hp⟩
      · exact br_t rfl hp
      · rcases ha with rfl | rfl
        · exact br_f (by decide) (br_f (by decide) (br_t rfl (nm_r (by decide) hp)))
        · exact br_f (by decide) (br_f (by decide) (br_t rfl (nm_r (by decide) hp)))
    obtain ⟨a1, a2, a3, a4, a5, a6, a7, a8, a9, a10, a11, a12, a13, a14, a15, a16, a17, a18, a19, a20, a21, a22, a23, a24, a25, a26, a27, a28, a29, a30, a31, a32⟩ := v1
    refine br_f ?_ (br_f (by decide) (nm_r (nI_1 j) (hY _ h77)))
    intro z
    exact Int32.lt_irrefl (Int32.lt_of_lt_of_le (Int32.lt_of_le_of_lt z (by decide : (-1 : Int32) < 0)) (nI_pos' (by omega)))
  by_cases hjn : j < n
  · rw [Nat.min_eq_left (by omega)] at h2c
    subst h2c
    have hlt : nI j < le (nI m).toNatClampNeg := by rw [hlm]; exact nI_lt hjn (by omega)
    by_cases hq : q < L
    · have hX : ∀ post : SX → Prop, post (nI L, pn, wp, nI m, nI S, se, fl, nI (q + 1), 0, rn_aI 1, 1, it (24 * m + j), it (24 * m + j), nI (j + 1), it, le, pe, op, kd, nu, co, cl, ap, upd rd m (rd m + 1), si, bg, ct, ls, hd, hk, hc, vl) → wpX_sourceAsked post (nI L, pn, wp, nI m, nI S, se, fl, nI q, 0, -1, 0, el, rs, nI j, it, le, pe, op, kd, nu, co, cl, ap, rd, si, bg, ct, ls, hd, hk, hc, vl) := fun post hp => by
        refine ⟨hmi, br_t hlt (xr_rd1 hL hq hm (by omega) ?_)⟩
        exact br_f (by decide) (nm_r (nI_1 j) (nm_r (by decide) hp))
      have hg := rn_sm_up g (fun t => if t = 0 then g t + 1 else g t) 0 (if_pos rfl) (fun t ht => if_neg ht) (S + 1) (by omega)
      have hP : rn_P S g b 0 0 < rn_P S (fun t => if t = 0 then g t + 1 else g t) b 1 1 := by
        unfold rn_P rn_ph
        rw [hg]; simp; omega
      refine ⟨1, _, (nI L, nI m, nI S, wy, nI (q + 1), nI (j + 1), se, fl, it (24 * m + j), vt, ot, ra, br, oc, it, le, tk, cn, kd, nu, lf, la, pc, yb, yh, yk, ho, ap, upd rd m (rd m + 1), si, vs, os), fun post nf t ht hp => nx_sr hS hX post nf t ht hp, hYst _ _ (fun post hp => yr_ft1 hL hq hm hn1 hn2 hjn hp), Or.inr ⟨_, hP, Or.inl ⟨rfl, q + 1, (fun t => if t = 0 then g t + 1 else g t), (fun t => if 0 < t then e t + 1 else e t), r, b, fl, it (24 * m + j), it (24 * m + j), nI (j + 1), nI (j + 1), it (24 * m + j), vt, ot, br, oc, ap, upd rd m (rd m + 1), bg, ct, ls, hd, hk, hc, lf, la, pc, yb, yh, yk, ho, vl, vs, os, rfl, rfl, fun _ => rfl, rfl, ?_⟩⟩⟩
      refine ⟨by omega, ⟨j + 1, by omega, rfl, by rw [hlc, Nat.min_eq_left (by omega)]⟩, fun s hs => ?_, fun t ht => ?_, fun s hs => ?_, fun s hs hp _ => ?_, fun s hs hp hc' => ?_, h8⟩
      · have := dd_mono (hkd s hs) (Nat.le_of_lt hP) (h3 s hs)
        exact this
      · have := h4 t ht
        dsimp only
        by_cases e0 : t = 0
        · subst e0; rw [if_pos rfl, if_neg (by omega)]; omega
        · rw [if_neg e0, if_pos (by omega)]; omega
      · have := h5 s hs
        dsimp only
        rw [if_pos (c := 0 < s + 1) (by omega)]
        split <;> omega
      · have := h5 s hs
        have e0 : s = 0 := by omega
        subst e0
        dsimp only
        rw [if_neg (by omega), if_pos (by omega)]; omega
      · exact h7 s hs (Or.inl (by omega)) hc'
    · have : L = q := by omega
      subst this
      have hX : ∀ post : SX → Prop, post (nI L, pn, wp, nI m, nI S, se, fl, nI L, 9000000000000000001, -1, 0, el, rs, nI j, it, le, pe, op, kd, nu, co, cl, ap, rd, si, bg, ct, ls, hd, hk, hc, vl) → wpX_sourceAsked post (nI L, pn, wp, nI m, nI S, se, fl, nI L, 0, -1, 0, el, rs, nI j, it, le, pe, op, kd, nu, co, cl, ap, rd, si, bg, ct, ls, hd, hk, hc, vl) := fun post hp => by
        refine ⟨hmi, br_t hlt (xr_rd0 ?_)⟩
        exact br_t rfl hp
      refine ⟨3, _, (nI L, nI m, nI S, wy, nI L, nI (j + 1), se, fl, vv, vt, ot, ra, br, 9000000000000000001, it, le, tk, cn, kd, nu, lf, la, pc, yb, yh, yk, ho, ap, rd, si, vs, os), fun post nf t ht hp => nx_sr hS hX post nf t ht hp, hYst _ _ (fun post hp => yr_ft0 hm hn1 hn2 hjn hp), Or.inl ⟨rfl, L, 9000000000000000001, fl, -1, 0, el, rs, nI j, nI (j + 1), vv, vt, ot, br, ap, rd, bg, ct, ls, hd, hk, hc, lf, la, pc, yb, yh, yk, ho, vl, vs, os, by decide, rfl, rfl⟩⟩
  · rw [Nat.min_eq_right (by omega)] at h2c
    subst h2c
    have hlt : ¬ nI n < le (nI m).toNatClampNeg := by rw [hlm]; exact Int32.lt_irrefl
    have hX : ∀ post : SX → Prop, post (nI L, pn, wp, nI m, nI S, se, fl, nI q, 0, rn_aI 1, 2, el, rs, nI n, it, le, pe, op, kd, nu, co, cl, ap, rd, si, bg, ct, ls, hd, hk, hc, vl) → wpX_sourceAsked post (nI L, pn, wp, nI m, nI S, se, fl, nI q, 0, -1, 0, el, rs, nI n, it, le, pe, op, kd, nu, co, cl, ap, rd, si, bg, ct, ls, hd, hk, hc, vl) := fun post hp =>
      ⟨hmi, br_f hlt (nm_r (by decide) hp)⟩
    have hP : rn_P S g b 0 0 < rn_P S g b 2 1 := by
      unfold rn_P rn_ph
      simp
    refine ⟨0, _, (nI L, nI m, nI S, wy, nI q, nI (j + 1), se, fl, vv, vt, ot, ra, br, oc, it, le, tk, cn, kd, nu, lf, la, pc, yb, yh, yk, ho, ap, rd, si, vs, os), fun post nf t ht hp => nx_sr hS hX post nf t ht hp, hYst _ _ (fun post hp => yr_ftE hm hn1 hn2 (by omega) (by omega) hp), Or.inr ⟨_, hP, Or.inr ⟨rfl, q, g, e, r, b, fl, el, rs, nI n, nI (j + 1), vv, vt, ot, br, oc, ap, rd, bg, ct, ls, hd, hk, hc, lf, la, pc, yb, yh, yk, ho, vl, vs, os, rfl, rfl, fun z => absurd z (by decide), rfl, ?_⟩⟩⟩
    refine ⟨h1, ⟨j + 1, by omega, rfl, by rw [hlc, Nat.min_eq_right (by omega)]⟩, fun s hs => dd_mono (hkd s hs) (Nat.le_of_lt hP) (h3 s hs), h4, h5, fun s hs hp z => absurd z (by decide), fun s hs hp hc' => h7 s hs (Or.inl (by omega)) hc', h8⟩
end
end
section
def ny_a (sgn : Nat) : Int32 := if sgn = 0 then 2 else if sgn = 1 then 1 else 0
def ny_d (sgn : Nat) : Int32 := if sgn = 0 then 1 else 0
def nx_o (o : Int32) : Int32 := if o = 1 then 1 else 0
section
variable {lm pn wp sr sc se fl sp pt sg el rs sn wy ya vv vt ot ra br : Int32} {en oc : Int64} {it le pe op kd nu co cl ap rd si bg ct ls hd hk hc vl tk cn lf la pc yb yh yk ho vs os : Nat → Int32}
variable {bg' ct' ls' hd' hk' hc' lf' la' pc' yb' yh' yk' ho' : Nat → Int32} {S L m q s sgn k : Nat} {g e r b : Nat → Nat} {x y : Int32}
theorem nx_out {u : SX} {v : SY} (h : ro_O pn wp se wy ra it le pe op kd nu co cl si tk cn L S m u v) (post : Int32 → SX → Prop) (nf : Nat) (t : Int32) (hp : post 0 u) : nx_W post (nf + 1) t u := by
  obtain ⟨q, oe, fl, pt, sg, el, rs, sn, ya, vv, vt, ot, br, ap, rd, bg, ct, ls, hd, hk, hc, lf, la, pc, yb, yh, yk, ho, vl, vs, os, h1, rfl, rfl⟩ := h
  have h112 : wX_nextComes_112 post (nI L) pn wp (nI m) (nI S) se fl (nI q) oe pt sg el rs sn it le pe op kd nu co cl ap rd si bg ct ls hd hk hc vl := br_f h1 hp
  exact br_c (fun _ => h112) (fun _ => br_c (fun _ => h112) (fun _ => br_f h1 h112))
def pl_Q (pn wp se wy ra : Int32) (it le pe op kd nu co cl si tk cn : Nat → Int32) (L S m P d sgn p : Nat) (u : SX) (v : SY) : Prop :=
  ∃ (o : Int32) (u' : SX) (v' : SY), ((o = 3 ∧ ro_O pn wp se wy ra it le pe op kd nu co cl si tk cn L S m u' v') ∨ (∃ P' : Nat, P ≤ P' ∧ ((o = 1 ∧ rr_R pn wp se wy ra it le pe op kd nu co cl si tk cn L S m 1 (S + 1) P' u' v') ∨ (o = 0 ∧ rr_R pn wp se wy ra it le pe op kd nu co cl si tk cn L S m 2 (S + 1) P' u' v')))) ∧
    (∀ (post : Int32 → SX → Prop) (nf t : Nat), d < nf → t ≤ P → post (nx_o o) u' → nx_W post nf (nI t) u) ∧ (∀ (post : Int32 → SY → Prop) (nf : Nat), d < nf → post o v' → ny_W post nf (rn_aI p) (ny_a sgn) (ny_d sgn) v)
theorem rr_bound {P p : Nat} {u : SX} {v : SY} (hS : S ≤ 8) (hL : L ≤ 150) (hp : p ≤ S + 1) (h : rr_R pn wp se wy ra it le pe op kd nu co cl si tk cn L S m sgn p P u v) : P < 90000 := by
  obtain ⟨q, g, e, r, b, fl, el, rs, sn, ya, vv, vt, ot, br, oc, ap, rd, bg, ct, ls, hd, hk, hc, lf, la, pc, yb, yh, yk, ho, vl, vs, os, rfl, rfl, h1, rfl, h2⟩ := h
  exact dd_bound hS hL hp h2
theorem pl_go {P P1 d kx sgn : Nat} {u : SX} {v : SY} (IH : ∀ d', d' < d → ∀ (P sgn p : Nat) (u : SX) (v : SY), 100000 ≤ P + d' → rr_R pn wp se wy ra it le pe op kd nu co cl si tk cn L S m sgn p P u v → sgn ≤ 2 → p ≤ S + 1 → (sgn = 0 → p ≤ S) → (sgn ≠ 0 → 1 ≤ p) → pl_Q pn wp se wy ra it le pe op kd nu co cl si tk cn L S m P d' sgn p u v)
    (hPd : 100000 ≤ P + d) (hP : P < 90000) (hs : s < S) (act : Int32) (u1 : SX) (v1 : SY) (hk1 : 1 ≤ kx) (hk2 : kx ≤ 2) (hP1 : P + kx ≤ P1 + 1)
    (hX : ∀ (post : Int32 → SX → Prop) (nf t : Nat), t + kx ≤ 1000000 → nx_W post nf (nI (t + kx)) u1 → nx_W post (nf + kx) (nI t) u) (hY : ∀ (post : Int32 → SY → Prop) (nf : Nat), ny_A post nf s act v1 → ny_W post (nf + 1) (nI s) (ny_a sgn) (ny_d sgn) v)
    (hN : rr_N pn wp se wy ra it le pe op kd nu co cl si tk cn L S m P1 (s + 1) act u1 v1) : pl_Q pn wp se wy ra it le pe op kd nu co cl si tk cn L S m P d sgn (s + 1) u v := by
  rcases hN with ⟨rfl, ho⟩ | ⟨P', hP', hN⟩
  · refine ⟨3, u1, v1, Or.inl ⟨rfl, ho⟩, fun post nf t hf ht hp => ?_, fun post nf hf hp => ?_⟩
    · obtain ⟨f, rfl⟩ : ∃ f, nf = f + 1 + kx := ⟨nf - 1 - kx, by omega⟩
      exact hX post (f + 1) t (by omega) (nx_out ho post f _ hp)
    · obtain ⟨f, rfl⟩ : ∃ f, nf = f + 1 := ⟨nf - 1, by omega⟩
      exact hY post f (Or.inl ⟨rfl, hp⟩)
  · have fin : ∀ (sg2 p2 : Nat), (∀ (post : Int32 → SY → Prop) (nf : Nat), ny_W post nf (rn_aI p2) (ny_a sg2) (ny_d sg2) v1 → ny_A post nf s act v1) → pl_Q pn wp se wy ra it le pe op kd nu co cl si tk cn L S m P' (d - kx) sg2 p2 u1 v1 → pl_Q pn wp se wy ra it le pe op kd nu co cl si tk cn L S m P d sgn (s + 1) u v := by
      rintro sg2 p2 hA ⟨o, u', v', hr, gx, gy⟩
      refine ⟨o, u', v', ?_, fun post nf t hf ht hp => ?_, fun post nf hf hp => ?_⟩
      · rcases hr with hr | ⟨P2, a, c⟩
        · exact Or.inl hr
        · exact Or.inr ⟨P2, by omega, c⟩
      · obtain ⟨f, rfl⟩ : ∃ f, nf = f + kx := ⟨nf - kx, by omega⟩
        exact hX post f t (by omega) (gx post f (t + kx) (by omega) (by omega) hp)
      · obtain ⟨f, rfl⟩ : ∃ f, nf = f + 1 := ⟨nf - 1, by omega⟩
        exact hY post f (hA post f (gy post f (by omega) hp))
    rcases hN with ⟨rfl, _, hR⟩ | ⟨rfl, hR⟩ | ⟨rfl, hR⟩
    · exact fin 0 s (fun post nf z => Or.inr (Or.inl ⟨rfl, z⟩)) (IH (d - kx) (by omega) P' 0 s u1 v1 (by omega) hR (by omega) (by omega) (fun _ => by omega) (fun z => absurd rfl z))
    · exact fin 1 (s + 2) (fun post nf z => Or.inr (Or.inr ⟨Or.inr rfl, z⟩)) (IH (d - kx) (by omega) P' 1 (s + 2) u1 v1 (by omega) hR (by omega) (by omega) (fun z => absurd z (by omega)) (fun _ => by omega))
    · exact fin 2 (s + 2) (fun post nf z => Or.inr (Or.inr ⟨Or.inl rfl, z⟩)) (IH (d - kx) (by omega) P' 2 (s + 2) u1 v1 (by omega) hR (by omega) (by omega) (fun z => absurd z (by omega)) (fun _ => by omega))
theorem pl_main (hSt : ∀ t, t < S → rl_St kd nu co cl tk cn t) (hle : rl_L le) (hS : S ≤ 8) (hL : L ≤ 150) (hm : m < 3) :
    ∀ (d P sgn p : Nat) (u : SX) (v : SY), 100000 ≤ P + d → rr_R pn wp se wy ra it le pe op kd nu co cl si tk cn L S m sgn p P u v → sgn ≤ 2 → p ≤ S + 1 → (sgn = 0 → p ≤ S) → (sgn ≠ 0 → 1 ≤ p) → pl_Q pn wp se wy ra it le pe op kd nu co cl si tk cn L S m P d sgn p u v := by
  intro d
  induction d using Nat.strongRecOn with
  | _ d IH =>
    intro P sgn p u v hPd hR hsg hp hp0 hp1
    have hPb := rr_bound hS hL hp hR
    by_cases hpS : p = S + 1
    · -- the pipeline has answered
      subst hpS
      have hR' := hR
      obtain ⟨q, g, e, r, b, fl, el, rs, sn, ya, vv, vt, ot, br, oc, ap, rd, bg, ct, ls, hd, hk, hc, lf, la, pc, yb, yh, yk, ho, vl, vs, os, rfl, rfl, h1, rfl, h2⟩ := hR
      have : sgn = 1 ∨ sgn = 2 := by
        have : sgn ≠ 0 := fun z => by have := hp0 z; omega
        omega
      rcases this with rfl | rfl
      · refine ⟨1, _, _, Or.inr ⟨_, Nat.le_refl _, Or.inl ⟨rfl, hR'⟩⟩, fun post nf t hf ht hq => ?_, fun post nf hf hq => ?_⟩
        · obtain ⟨f, rfl⟩ : ∃ f, nf = f + 1 := ⟨nf - 1, by omega⟩
          exact br_f (nx_lt (by omega)) (br_t (Int32.le_refl _) (br_t rfl (br_t rfl hq)))
        · obtain ⟨f, rfl⟩ : ∃ f, nf = f + 1 := ⟨nf - 1, by omega⟩
          exact br_t (Int32.le_refl _) hq
      · refine ⟨0, _, _, Or.inr ⟨_, Nat.le_refl _, Or.inr ⟨rfl, hR'⟩⟩, fun post nf t hf ht hq => ?_, fun post nf hf hq => ?_⟩
        · obtain ⟨f, rfl⟩ : ∃ f, nf = f + 1 := ⟨nf - 1, by omega⟩
          exact br_f (nx_lt (by omega)) (br_t (Int32.le_refl _) (br_t rfl (br_f (by decide) hq)))
        · obtain ⟨f, rfl⟩ : ∃ f, nf = f + 1 := ⟨nf - 1, by omega⟩
          exact br_t (Int32.le_refl _) hq
    · cases p with
      | zero =>
        have hsg0 : sgn = 0 := by
          apply Classical.byContradiction
          intro z
          have := hp1 z; omega
        subst hsg0
        obtain ⟨q, g, e, r, b, fl, el, rs, sn, ya, vv, vt, ot, br, oc, ap, rd, bg, ct, ls, hd, hk, hc, lf, la, pc, yb, yh, yk, ho, vl, vs, os, rfl, rfl, h1, rfl, h2⟩ := hR
        obtain ⟨act, u1, v1, w1, w2, w3⟩ := ms_sr (pn := pn) (wp := wp) (se := se) (fl := fl) (el := el) (rs := rs) (sn := sn) (it := it) (le := le) (pe := pe) (op := op) (kd := kd) (nu := nu) (co := co) (cl := cl) (ap := ap) (rd := rd) (si := si) (bg := bg) (ct := ct) (ls := ls) (hd := hd) (hk := hk) (hc := hc) (vl := vl) (wy := wy) (ya := ya) (vv := vv) (vt := vt) (ot := ot) (ra := ra) (br := br) (oc := oc) (tk := tk) (cn := cn) (lf := lf) (la := la) (pc := pc) (yb := yb) (yh := yh) (yk := yk) (ho := ho) (vs := vs) (os := os) hSt hle hS hL hm h2
        rcases w3 with ⟨rfl, ho⟩ | ⟨P', hP', hN⟩
        · refine ⟨3, u1, v1, Or.inl ⟨rfl, ho⟩, fun post nf t hf ht hq => ?_, fun post nf hf hq => ?_⟩
          · obtain ⟨f, rfl⟩ : ∃ f, nf = f + 1 + 1 := ⟨nf - 2, by omega⟩
            exact w1 post (f + 1) t (by omega) (nx_out ho post f _ hq)
          · obtain ⟨f, rfl⟩ : ∃ f, nf = f + 1 := ⟨nf - 1, by omega⟩
            exact w2 post f (Or.inl ⟨rfl, hq⟩)
        · have fin : ∀ sg2 : Nat, (∀ (post : Int32 → SY → Prop) (nf : Nat), ny_W post nf (rn_aI 1) (ny_a sg2) (ny_d sg2) v1 → ((act = 0 ∨ act = 1) ∧ ny_W post nf (nI 0) act 0 v1)) → pl_Q pn wp se wy ra it le pe op kd nu co cl si tk cn L S m P' (d - 1) sg2 1 u1 v1 → pl_Q pn wp se wy ra it le pe op kd nu co cl si tk cn L S m (rn_P S g b 0 0) d 0 0 (nI L, pn, wp, nI m, nI S, se, fl, nI q, 0, rn_aI 0, nI 0, el, rs, sn, it, le, pe, op, kd, nu, co, cl, ap, rd, si, bg, ct, ls, hd, hk, hc, vl) (nI L, nI m, nI S, wy, nI q, ya, se, fl, vv, vt, ot, ra, br, oc, it, le, tk, cn, kd, nu, lf, la, pc, yb, yh, yk, ho, ap, rd, si, vs, os) := by
            rintro sg2 hA ⟨o, u', v', hr, gx, gy⟩
            refine ⟨o, u', v', ?_, fun post nf t hf ht hq => ?_, fun post nf hf hq => ?_⟩
            · rcases hr with hr | ⟨P2, a, c⟩
              · exact Or.inl hr
              · exact Or.inr ⟨P2, by omega, c⟩
            · obtain ⟨f, rfl⟩ : ∃ f, nf = f + 1 := ⟨nf - 1, by omega⟩
              exact w1 post f t (by omega) (gx post f (t + 1) (by omega) (by omega) hq)
            · obtain ⟨f, rfl⟩ : ∃ f, nf = f + 1 := ⟨nf - 1, by omega⟩
              exact w2 post f (Or.inr (hA post f (gy post f (by omega) hq)))
          rcases hN with ⟨rfl, hR⟩ | ⟨rfl, hR⟩
          · exact fin 1 (fun post nf z => ⟨Or.inr rfl, z⟩) (IH (d - 1) (by omega) P' 1 1 u1 v1 (by omega) hR (by omega) (by omega) (fun z => absurd z (by omega)) (fun _ => by omega))
          · exact fin 2 (fun post nf z => ⟨Or.inl rfl, z⟩) (IH (d - 1) (by omega) P' 2 1 u1 v1 (by omega) hR (by omega) (by omega) (fun z => absurd z (by omega)) (fun _ => by omega))
      | succ s =>
        have hs : s < S := by omega
        obtain ⟨q, g, e, r, b, fl, el, rs, sn, ya, vv, vt, ot, br, oc, ap, rd, bg, ct, ls, hd, hk, hc, lf, la, pc, yb, yh, yk, ho, vl, vs, os, rfl, rfl, h1, rfl, h2⟩ := hR
        have : sgn = 0 ∨ sgn = 1 ∨ sgn = 2 := by omega
        rcases this with rfl | rfl | rfl
        · obtain ⟨act, u1, v1, w1, w2, w3⟩ := ms_0 (pn := pn) (wp := wp) (se := se) (fl := fl) (el := el) (rs := rs) (sn := sn) (it := it) (le := le) (pe := pe) (op := op) (kd := kd) (nu := nu) (co := co) (cl := cl) (ap := ap) (rd := rd) (si := si) (bg := bg) (ct := ct) (ls := ls) (hd := hd) (hk := hk) (hc := hc) (vl := vl) (wy := wy) (ya := ya) (vv := vv) (vt := vt) (ot := ot) (ra := ra) (br := br) (oc := oc) (tk := tk) (cn := cn) (lf := lf) (la := la) (pc := pc) (yb := yb) (yh := yh) (yk := yk) (ho := ho) (vs := vs) (os := os) hSt hle hS hL hs h2
          exact pl_go IH hPd hPb hs act u1 v1 (kx := 1) (by omega) (by omega) (Nat.le_refl _) (fun post nf t ht z => w1 post nf t (by omega) z) w2 w3
        · have := h1 rfl
          subst this
          obtain ⟨act, u1, v1, kx, P1, w0, w0', w1, w2, w3, w4⟩ := ms_1 (pn := pn) (wp := wp) (se := se) (fl := fl) (rs := rs) (sn := sn) (it := it) (le := le) (pe := pe) (op := op) (kd := kd) (nu := nu) (co := co) (cl := cl) (ap := ap) (rd := rd) (si := si) (bg := bg) (ct := ct) (ls := ls) (hd := hd) (hk := hk) (hc := hc) (vl := vl) (wy := wy) (ya := ya) (vt := vt) (ot := ot) (ra := ra) (br := br) (oc := oc) (tk := tk) (cn := cn) (lf := lf) (la := la) (pc := pc) (yb := yb) (yh := yh) (yk := yk) (ho := ho) (vs := vs) (os := os) (y := el) hSt hle hS hL hs h2
          exact pl_go IH hPd hPb hs act u1 v1 w0 w0' w1 w2 w3 w4
        · obtain ⟨act, u1, v1, kx, P1, w0, w0', w1, w2, w3, w4⟩ := ms_2 (pn := pn) (wp := wp) (se := se) (fl := fl) (el := el) (rs := rs) (sn := sn) (it := it) (le := le) (pe := pe) (op := op) (kd := kd) (nu := nu) (co := co) (cl := cl) (ap := ap) (rd := rd) (si := si) (bg := bg) (ct := ct) (ls := ls) (hd := hd) (hk := hk) (hc := hc) (vl := vl) (wy := wy) (ya := ya) (vv := vv) (vt := vt) (ot := ot) (ra := ra) (br := br) (oc := oc) (tk := tk) (cn := cn) (lf := lf) (la := la) (pc := pc) (yb := yb) (yh := yh) (yk := yk) (ho := ho) (vs := vs) (os := os) hSt hle hS hL hs h2
          exact pl_go IH hPd hPb hs act u1 v1 w0 w0' w1 w2 w3 w4
/-- between two askings -/
def rb_B (pn wp se wy ra : Int32) (it le pe op kd nu co cl si tk cn : Nat → Int32) (L S m P : Nat) (u : SX) (v : SY) : Prop := ∃ (q : Nat) (g e r b : Nat → Nat) (fl pt sg el rs sn ya vv vt ot br : Int32) (oc : Int64) (ap rd bg ct ls hd hk hc lf la pc yb yh yk ho vl vs os : Nat → Int32), u = (nI L, pn, wp, nI m, nI S, se, fl, nI q, 0, pt, sg, el, rs, sn, it, le, pe, op, kd, nu, co, cl, ap, rd, si, bg, ct, ls, hd, hk, hc, vl) ∧ v = (nI L, nI m, nI S, wy, nI q, ya, se, fl, vv, vt, ot, ra, br, oc, it, le, tk, cn, kd, nu, lf, la, pc, yb, yh, yk, ho, ap, rd, si, vs, os) ∧ P = rn_P S g b 0 S ∧ dd_D S L m le kd nu g e r b 0 S q sn ya bg ct ls hd hk hc lf la pc yb yh yk ho
/-- an element has come -/
def rg_G (pn wp se wy ra : Int32) (it le pe op kd nu co cl si tk cn : Nat → Int32) (L S m P : Nat) (w : Int32) (u : SX) (v : SY) : Prop := ∃ (q : Nat) (g e r b : Nat → Nat) (fl pt sg rs sn ya vt ot br : Int32) (oc : Int64) (ap rd bg ct ls hd hk hc lf la pc yb yh yk ho vl vs os : Nat → Int32), u = (nI L, pn, wp, nI m, nI S, se, fl, nI q, 0, pt, sg, w, rs, sn, it, le, pe, op, kd, nu, co, cl, ap, rd, si, bg, ct, ls, hd, hk, hc, vl) ∧ v = (nI L, nI m, nI S, wy, nI q, ya, se, fl, w, vt, ot, ra, br, oc, it, le, tk, cn, kd, nu, lf, la, pc, yb, yh, yk, ho, ap, rd, si, vs, os) ∧ P = rn_P S g b 0 S ∧ dd_D S L m le kd nu g e r b 0 S q sn ya bg ct ls hd hk hc lf la pc yb yh yk ho
/-- the pipeline has ended -/
def rf_F (pn wp se wy ra : Int32) (it le pe op kd nu co cl si tk cn : Nat → Int32) (L S m : Nat) (u : SX) (v : SY) : Prop := ∃ (q : Nat) (fl pt sg el rs sn ya vv vt ot br : Int32) (oc : Int64) (ap rd bg ct ls hd hk hc lf la pc yb yh yk ho vl vs os : Nat → Int32), u = (nI L, pn, wp, nI m, nI S, se, fl, nI q, 0, pt, sg, el, rs, sn, it, le, pe, op, kd, nu, co, cl, ap, rd, si, bg, ct, ls, hd, hk, hc, vl) ∧ v = (nI L, nI m, nI S, wy, nI q, ya, se, fl, vv, vt, ot, ra, br, oc, it, le, tk, cn, kd, nu, lf, la, pc, yb, yh, yk, ho, ap, rd, si, vs, os)
theorem rb_next {P : Nat} {u : SX} {v : SY} (hS8 : S ≤ 8) (hSt : ∀ t, t < S → rl_St kd nu co cl tk cn t) (h : rr_R pn wp se wy ra it le pe op kd nu co cl si tk cn L S m 1 (S + 1) P u v) : ∃ (w : Int32) (P' : Nat), P < P' ∧ rg_G pn wp se wy ra it le pe op kd nu co cl si tk cn L S m P' w u v := by
  obtain ⟨q, g, e, r, b, fl, el, rs, sn, ya, vv, vt, ot, br, oc, ap, rd, bg, ct, ls, hd, hk, hc, lf, la, pc, yb, yh, yk, ho, vl, vs, os, rfl, rfl, h1, rfl, h2⟩ := h
  have := h1 rfl
  subst this
  have hkd := ms_hkd hSt
  obtain ⟨d1, ⟨j, d2a, d2b, d2c⟩, d3, d4, d5, d6, d7, d8⟩ := h2
  · have hP : rn_P S g b 1 (S + 1) < rn_P S g b 0 S := by
      unfold rn_P rn_ph
      simp; omega
    refine ⟨el, _, hP, q, g, e, r, b, fl, _, _, rs, sn, ya, vt, ot, br, oc, ap, rd, bg, ct, ls, hd, hk, hc, lf, la, pc, yb, yh, yk, ho, vl, vs, os, rfl, rfl, rfl, d1, ⟨j, by omega, d2b, d2c⟩, fun s hs => dd_mono (hkd s hs) (Nat.le_of_lt hP) (d3 s hs), d4, d5, fun s _ _ z => absurd z (by decide), fun s hs hp _ => ?_, d8⟩
    rcases hp with hp | ⟨_, z⟩
    · omega
    · exact absurd rfl z
theorem pl_pull (hSt : ∀ t, t < S → rl_St kd nu co cl tk cn t) (hle : rl_L le) (hS : S ≤ 8) (hL : L ≤ 150) (hm : m < 3) {P : Nat} {u : SX} {v : SY} (h : rb_B pn wp se wy ra it le pe op kd nu co cl si tk cn L S m P u v) :
    ∃ (o : Int32) (u' : SX) (v' : SY), ((o = 3 ∧ ro_O pn wp se wy ra it le pe op kd nu co cl si tk cn L S m u' v') ∨ (o = 0 ∧ rf_F pn wp se wy ra it le pe op kd nu co cl si tk cn L S m u' v') ∨ (o = 1 ∧ ∃ (w : Int32) (P' : Nat), P < P' ∧ rg_G pn wp se wy ra it le pe op kd nu co cl si tk cn L S m P' w u' v')) ∧
      (∀ post : Int32 → SX → Prop, post (nx_o o) u' → wpX_nextComes post u) ∧ (∀ post : Int32 → SY → Prop, post o v' → wpY_pull post v) := by
  obtain ⟨q, g, e, r, b, fl, pt, sg, el, rs, sn, ya, vv, vt, ot, br, oc, ap, rd, bg, ct, ls, hd, hk, hc, lf, la, pc, yb, yh, yk, ho, vl, vs, os, rfl, rfl, rfl, h2⟩ := h
  have hR : rr_R pn wp se wy ra it le pe op kd nu co cl si tk cn L S m 0 S (rn_P S g b 0 S) (nI L, pn, wp, nI m, nI S, se, fl, nI q, 0, rn_aI S, nI 0, el, rs, sn, it, le, pe, op, kd, nu, co, cl, ap, rd, si, bg, ct, ls, hd, hk, hc, vl) (nI L, nI m, nI S, wy, nI q, ya, se, fl, vv, vt, ot, ra, br, oc, it, le, tk, cn, kd, nu, lf, la, pc, yb, yh, yk, ho, ap, rd, si, vs, os) :=
    ⟨q, g, e, r, b, fl, el, rs, sn, ya, vv, vt, ot, br, oc, ap, rd, bg, ct, ls, hd, hk, hc, lf, la, pc, yb, yh, yk, ho, vl, vs, os, rfl, rfl, fun z => absurd z (by decide), rfl, h2⟩
  obtain ⟨o, u', v', hr, gx, gy⟩ := pl_main hSt hle hS hL hm 100000 _ 0 S _ _ (by omega) hR (by omega) (by omega) (fun _ => Nat.le_refl _) (fun z => absurd rfl z)
  refine ⟨o, u', v', ?_, fun post hp => ?_, fun post hp => ?_⟩
  · rcases hr with hr | ⟨P', hP', hr⟩
    · exact Or.inl hr
    · rcases hr with ⟨rfl, hr⟩ | ⟨rfl, hr⟩
      · obtain ⟨w, P2, hP2, hG⟩ := rb_next hS hSt hr
        exact Or.inr (Or.inr ⟨rfl, w, P2, by omega, hG⟩)
      · obtain ⟨q, g, e, r, b, fl, el, rs, sn, ya, vv, vt, ot, br, oc, ap, rd, bg, ct, ls, hd, hk, hc, lf, la, pc, yb, yh, yk, ho, vl, vs, os, rfl, rfl, h1, _, _⟩ := hr
        exact Or.inr (Or.inl ⟨rfl, q, fl, _, _, el, rs, sn, ya, vv, vt, ot, br, oc, ap, rd, bg, ct, ls, hd, hk, hc, lf, la, pc, yb, yh, yk, ho, vl, vs, os, rfl, rfl⟩)
  · exact nm_r (rn_pred S) ⟨100001, gx post 100001 0 (by omega) (by omega) hp⟩
  · exact nm_r (rn_pred S) ⟨100001, gy post 100001 (by omega) hp⟩
end
end
section
def zr_z (f : Nat → Int32) : Nat → (Nat → Int32)
  | 0 => f
  | n + 1 => upd (zr_z f n) n 0
theorem zr_0 (f : Nat → Int32) : ∀ (n t : Nat), t < n → zr_z f n t = 0
  | 0, t, h => absurd h (by omega)
  | n + 1, t, h => by
    simp only [zr_z]
    by_cases e : t = n
    · subst e; rw [pk_us]
    · rw [pk_un e]; exact zr_0 f n t (by omega)
section
variable {lm pn wp sr sc se fl sp pt sg el rs sn wy ya vv vt ot ra br : Int32} {en oc : Int64} {it le pe op kd nu co cl ap rd si bg ct ls hd hk hc vl tk cn lf la pc yb yh yk ho vs os : Nat → Int32}
variable {bg' ct' ls' hd' hk' hc' lf' la' pc' yb' yh' yk' ho' : Nat → Int32} {S L m q s sgn k : Nat} {g e r b : Nat → Nat} {x y : Int32}
theorem xr_start {post : SX → Prop} (hp : post (lm, pn, wp, sr, sc, 0, -1, 0, 0, pt, sg, el, rs, 0, it, le, pe, op, kd, nu, co, cl, zr_z ap 8, zr_z rd 3, si, zr_z bg 8, zr_z ct 8, ls, hd, hk, zr_z hc 8, vl)) : wpX_startRun post (lm, pn, wp, sr, sc, se, fl, sp, en, pt, sg, el, rs, sn, it, le, pe, op, kd, nu, co, cl, ap, rd, si, bg, ct, ls, hd, hk, hc, vl) := by
  have h47 : ∀ (d i nf : Nat), i + d = 8 → d < nf → wX_startRun_47 post lm pn wp sr sc 0 (-1) 0 0 pt sg el rs 0 nf (nI i) it le pe op kd nu co cl (zr_z ap i) (zr_z rd 3) si (zr_z bg i) (zr_z ct i) ls hd hk (zr_z hc i) vl := by
    intro d
    induction d with
    | zero =>
      intro i nf hi hf
      obtain ⟨f, rfl⟩ : ∃ f, nf = f + 1 := ⟨nf - 1, by omega⟩
      have : i = 8 := by omega
      subst this
      exact br_t (by decide) hp
    | succ d IH =>
      intro i nf hi hf
      obtain ⟨f, rfl⟩ : ∃ f, nf = f + 1 := ⟨nf - 1, by omega⟩
      have hv : vp_in (nI i) 8 := vp_in_nI (by omega) (by omega)
      have hcq : (nI i).toNatClampNeg = i := nI_clamp (by omega)
      refine br_f (nI_ge (b := 8) (by omega) (by decide)) ⟨hv, nm_r (e' := zr_z ap (i + 1)) (by rw [hcq]; rfl) ⟨hv, nm_r (e' := zr_z bg (i + 1)) (by rw [hcq, vn_0]; rfl) ⟨hv, nm_r (e' := zr_z ct (i + 1)) (by rw [hcq]; rfl) ⟨hv, nm_r (e' := zr_z hc (i + 1)) (by rw [hcq]; rfl) (nm_r (nI_1 i) (IH (i + 1) f (by omega) (by omega)))⟩⟩⟩⟩
  have h27 : ∀ (d i nf : Nat), i + d = 3 → d < nf → wX_startRun_27 post lm pn wp sr sc 0 (-1) 0 0 pt sg el rs 0 nf (nI i) it le pe op kd nu co cl ap (zr_z rd i) si bg ct ls hd hk hc vl := by
    intro d
    induction d with
    | zero =>
      intro i nf hi hf
      obtain ⟨f, rfl⟩ : ∃ f, nf = f + 1 := ⟨nf - 1, by omega⟩
      have : i = 3 := by omega
      subst this
      exact br_t (by decide) ⟨9, h47 8 0 9 (by omega) (by omega)⟩
    | succ d IH =>
      intro i nf hi hf
      obtain ⟨f, rfl⟩ : ∃ f, nf = f + 1 := ⟨nf - 1, by omega⟩
      have hv : vp_in (nI i) 3 := vp_in_nI (by omega) (by omega)
      have hcq : (nI i).toNatClampNeg = i := nI_clamp (by omega)
      exact br_f (nI_ge (b := 3) (by omega) (by decide)) ⟨hv, nm_r (e' := zr_z rd (i + 1)) (by rw [hcq]; rfl) (nm_r (nI_1 i) (IH (i + 1) f (by omega) (by omega)))⟩
  exact ⟨4, h27 3 0 4 (by omega) (by omega)⟩
theorem yr_begin {post : SY → Prop} (hp : post (lm, sr, sc, wy, 0, 0, 0, -1, vv, vt, ot, 1, br, oc, it, le, tk, cn, kd, nu, zr_z lf 8, zr_z la 8, zr_z pc 8, zr_z yb 8, yh, yk, zr_z ho 8, zr_z ap 8, zr_z rd 3, si, vs, os)) : wpY_begin post (lm, sr, sc, wy, sp, ya, se, fl, vv, vt, ot, ra, br, oc, it, le, tk, cn, kd, nu, lf, la, pc, yb, yh, yk, ho, ap, rd, si, vs, os) := by
  have h83 : ∀ (d i nf : Nat), i + d = 3 → d < nf → wY_begin_83 post lm sr sc wy 0 0 0 (-1) vv vt ot 1 br oc nf (nI i) it le tk cn kd nu (zr_z lf 8) (zr_z la 8) (zr_z pc 8) (zr_z yb 8) yh yk (zr_z ho 8) (zr_z ap 8) (zr_z rd i) si vs os := by
    intro d
    induction d with
    | zero =>
      intro i nf hi hf
      obtain ⟨f, rfl⟩ : ∃ f, nf = f + 1 := ⟨nf - 1, by omega⟩
      have : i = 3 := by omega
      subst this
      exact br_t (by decide) hp
    | succ d IH =>
      intro i nf hi hf
      obtain ⟨f, rfl⟩ : ∃ f, nf = f + 1 := ⟨nf - 1, by omega⟩
      have hv : vp_in (nI i) 3 := vp_in_nI (by omega) (by omega)
      have hcq : (nI i).toNatClampNeg = i := nI_clamp (by omega)
      exact br_f (nI_ge (b := 3) (by omega) (by decide)) ⟨hv, nm_r (e' := zr_z rd (i + 1)) (by rw [hcq]; rfl) (nm_r (nI_1 i) (IH (i + 1) f (by omega) (by omega)))⟩
  have h27 : ∀ (d i nf : Nat), i + d = 8 → d < nf → wY_begin_27 post lm sr sc wy 0 0 0 (-1) vv vt ot 1 br oc nf (nI i) it le tk cn kd nu (zr_z lf i) (zr_z la i) (zr_z pc i) (zr_z yb i) yh yk (zr_z ho i) (zr_z ap i) rd si vs os := by
    intro d
    induction d with
    | zero =>
      intro i nf hi hf
      obtain ⟨f, rfl⟩ : ∃ f, nf = f + 1 := ⟨nf - 1, by omega⟩
      have : i = 8 := by omega
      subst this
      exact br_t (by decide) ⟨4, h83 3 0 4 (by omega) (by omega)⟩
    | succ d IH =>
      intro i nf hi hf
      obtain ⟨f, rfl⟩ : ∃ f, nf = f + 1 := ⟨nf - 1, by omega⟩
      have hv : vp_in (nI i) 8 := vp_in_nI (by omega) (by omega)
      have hcq : (nI i).toNatClampNeg = i := nI_clamp (by omega)
      refine br_f (nI_ge (b := 8) (by omega) (by decide)) ⟨hv, nm_r (e' := zr_z lf (i + 1)) (by rw [hcq]; rfl) ⟨hv, nm_r (e' := zr_z la (i + 1)) (by rw [hcq]; rfl) ⟨hv, nm_r (e' := zr_z pc (i + 1)) (by rw [hcq]; rfl) ⟨hv, nm_r (e' := zr_z yb (i + 1)) (by rw [hcq, vn_0]; rfl) ⟨hv, nm_r (e' := zr_z ho (i + 1)) (by rw [hcq]; rfl) ⟨hv, nm_r (e' := zr_z ap (i + 1)) (by rw [hcq]; rfl) (nm_r (nI_1 i) (IH (i + 1) f (by omega) (by omega)))⟩⟩⟩⟩⟩⟩
  exact ⟨9, h27 8 0 9 (by omega) (by omega)⟩
theorem rb_0 (hSt : ∀ t, t < S → rl_St kd nu co cl tk cn t) (hS : S ≤ 8) : ∃ P : Nat, rb_B pn wp 0 wp 1 it le pe op kd nu co cl si tk cn L S m P (nI L, pn, wp, nI m, nI S, 0, -1, 0, 0, pt, sg, el, rs, 0, it, le, pe, op, kd, nu, co, cl, zr_z ap 8, zr_z rd 3, si, zr_z bg 8, zr_z ct 8, ls, hd, hk, zr_z hc 8, vl) (nI L, nI m, nI S, wp, 0, 0, 0, -1, vv, vt, ot, 1, br, oc, it, le, tk, cn, kd, nu, zr_z lf 8, zr_z la 8, zr_z pc 8, zr_z yb 8, yh, yk, zr_z ho 8, zr_z ap 8, zr_z rd 3, si, vs, os) := by
  refine ⟨_, 0, fun _ => 0, fun _ => 0, fun _ => 0, fun _ => 0, -1, pt, sg, el, rs, 0, 0, vv, vt, ot, br, oc, zr_z ap 8, zr_z rd 3, zr_z bg 8, zr_z ct 8, ls, hd, hk, zr_z hc 8, zr_z lf 8, zr_z la 8, zr_z pc 8, zr_z yb 8, yh, yk, zr_z ho 8, vl, vs, os, rfl, rfl, rfl, by omega, ⟨0, by omega, rfl, by rw [Nat.zero_min]; rfl⟩, fun s hs => ?_, fun t _ => Nat.le_refl 0, fun s _ => Nat.le_refl 0, fun s _ _ z => absurd z (by decide), fun s _ _ _ => rfl, fun s => Nat.zero_le 1⟩
  have hs8 : s < 8 := by omega
  obtain ⟨k, hk1, hk2, _⟩ := hSt s hs
  unfold dd_S
  dsimp only
  rw [hk2, nI_clamp (by omega), zr_0 bg 8 s hs8, zr_0 ct 8 s hs8, zr_0 hc 8 s hs8, zr_0 lf 8 s hs8, zr_0 la 8 s hs8, zr_0 pc 8 s hs8, zr_0 yb 8 s hs8, zr_0 ho 8 s hs8]
  have hbb : rn_bb 0 0 0 := ⟨rfl, Or.inl ⟨rfl, rfl⟩⟩
  rcases st_17 hk1 with rfl | rfl | rfl | rfl | rfl | rfl | rfl | rfl | rfl | rfl | rfl | rfl | rfl | rfl | rfl | rfl | rfl
  · trivial
  · trivial
  · exact rfl
  · exact ⟨0, by omega, rfl, fun _ => rfl, fun m2 _ _ => by rw [Nat.zero_min]; rfl⟩
  · trivial
  · exact rfl
  · exact ⟨rfl, fun z => absurd rfl z⟩
  · exact ⟨rfl, fun z => absurd rfl z⟩
  · exact ⟨0, by omega, rfl, rfl, fun i hi => absurd hi (by omega)⟩
  · exact ⟨hbb, 0, by omega, rfl, fun _ => rfl, fun z => absurd z (by decide)⟩
  · exact ⟨0, by omega, rfl, by rw [Nat.zero_min]; rfl⟩
  · exact ⟨rfl, 0, by omega, rfl, fun z => absurd rfl z⟩
  · exact ⟨rfl, Or.inl rfl, fun z => absurd rfl z⟩
  · exact ⟨rfl, Or.inl rfl, fun z => absurd rfl z⟩
  · exact ⟨hbb, 0, by omega, rfl, rfl, rfl, fun _ => rfl, fun z => absurd z (by decide), rfl⟩
  · exact ⟨hbb, 0, by omega, rfl, rfl, fun _ => rfl, fun z => absurd z (by decide), fun i hi => absurd hi (by omega)⟩
  · exact ⟨hbb, 0, by omega, rfl, rfl, rfl, fun _ => rfl, fun z => absurd z (by decide), fun i hi => absurd hi (by omega)⟩
end
end
section
theorem t64_le (a b : Int32) : a.toInt64 ≤ b.toInt64 ↔ a ≤ b := by
  rw [Int64.le_iff_toInt_le, Int32.toInt_toInt64, Int32.toInt_toInt64, Int32.le_iff_toInt_le]
theorem t64_ne (a : Int32) : ¬ a.toInt64 = 9000000000000000000 := by
  intro h
  have := congrArg Int64.toInt h
  rw [Int32.toInt_toInt64] at this
  have h1 := Int32.toInt_lt a
  have e : (9000000000000000000 : Int64).toInt = 9000000000000000000 := by decide
  omega
def ru_bs (T : Int32) (i : Nat) (best w : Int32) : Int32 := if lN i = 0 ∨ (T = 5 ∧ w < best) ∨ (T = 6 ∧ best < w) ∨ T = 2 ∨ T = 4 then w else best
def ru_hit (T c w : Int32) : Int32 := if T = 3 ∧ ¬ w ≤ c then 1 else 0
def ru_yr (T : Int32) (yr : Int64) (w : Int32) : Int64 := if T = 7 then yr * 31 + w.toInt64 else yr + w.toInt64
def ra_R (tt : Nat) (c : Int32) (i : Nat) (xa yr : Int64) (best : Int32) : Prop :=
  match tt with
  | 0 => xa = lN i
  | 1 => xa = yr
  | 2 => xa = if i ≠ 0 ∧ lN (i - 1) = c.toInt64 then best.toInt64 else 9000000000000000000
  | 3 => xa = 0
  | 4 => xa = if i = 0 then 9000000000000000000 else best.toInt64
  | 5 => xa = if i = 0 then 9000000000000000000 else best.toInt64
  | 6 => xa = if i = 0 then 9000000000000000000 else best.toInt64
  | 7 => xa = yr
  | 8 => xa = lN i
  | _ => True
theorem ru_9 {tt : Nat} (h : tt ≤ 8) : tt = 0 ∨ tt = 1 ∨ tt = 2 ∨ tt = 3 ∨ tt = 4 ∨ tt = 5 ∨ tt = 6 ∨ tt = 7 ∨ tt = 8 := by omega
theorem lN_0 {i : Nat} (hi : i < 90000) : lN i = 0 ↔ i = 0 := by
  rw [show (0 : Int64) = lN 0 from rfl]; exact lN_eq (by omega) (by omega)
section
variable {lm pn wp sr sc se fl sp pt sg el rs sn wy ya vv vt ot ra br : Int32} {en oc : Int64} {it le pe op kd nu co cl ap rd si bg ct ls hd hk hc vl tk cn lf la pc yb yh yk ho vs os : Nat → Int32}
variable {i : Nat} {c w best T x9 x10 : Int32} {B yr z0 xa : Int64}
theorem ry_255 {post : Int64 → SY → Prop} {J : (Int64 → Int64 → Int32 → Int32 → Int32 → Int32 → Int32 → Int32 → Int32 → Int32 → Int32 → Int32 → Int32 → Int32 → Int32 → Int32 → Int32 → Int32 → Int64 → (Nat → Int32) → (Nat → Int32) → (Nat → Int32) → (Nat → Int32) → (Nat → Int32) → (Nat → Int32) → (Nat → Int32) → (Nat → Int32) → (Nat → Int32) → (Nat → Int32) → (Nat → Int32) → (Nat → Int32) → (Nat → Int32) → (Nat → Int32) → (Nat → Int32) → (Nat → Int32) → (Nat → Int32) → (Nat → Int32) → Prop)} (h : J yr (lN (i + 1)) x9 x10 w lm sr sc wy sp ya se fl w vt ot ra br oc it le tk cn kd nu lf la pc yb yh yk ho ap rd si vs os) : wY_run_255 post J T c B yr (lN i) x9 x10 best lm sr sc wy sp ya se fl w vt ot ra br oc it le tk cn kd nu lf la pc yb yh yk ho ap rd si vs os :=
  br_f (by decide) (nm_r (lN_1 i) h)
theorem ry_207 {post : Int64 → SY → Prop} {J : (Int64 → Int64 → Int32 → Int32 → Int32 → Int32 → Int32 → Int32 → Int32 → Int32 → Int32 → Int32 → Int32 → Int32 → Int32 → Int32 → Int32 → Int32 → Int64 → (Nat → Int32) → (Nat → Int32) → (Nat → Int32) → (Nat → Int32) → (Nat → Int32) → (Nat → Int32) → (Nat → Int32) → (Nat → Int32) → (Nat → Int32) → (Nat → Int32) → (Nat → Int32) → (Nat → Int32) → (Nat → Int32) → (Nat → Int32) → (Nat → Int32) → (Nat → Int32) → (Nat → Int32) → (Nat → Int32) → Prop)} (h : J yr (lN (i + 1)) x9 x10 (ru_bs T i best w) lm sr sc wy sp ya se fl w vt ot ra br oc it le tk cn kd nu lf la pc yb yh yk ho ap rd si vs os) : wY_run_207 post J T c B (lN i) x9 x10 best yr lm sr sc wy sp ya se fl w vt ot ra br oc it le tk cn kd nu lf la pc yb yh yk ho ap rd si vs os := by
  unfold ru_bs at h
  have h245 : ¬ lN i = 0 → ¬ (T = 5 ∧ w < best) → ¬ (T = 6 ∧ best < w) → wY_run_245 post J T c B yr (lN i) x9 x10 best lm sr sc wy sp ya se fl w vt ot ra br oc it le tk cn kd nu lf la pc yb yh yk ho ap rd si vs os := by
    intro n0 n5 n6
    refine br_c (fun e2 => ?_) (fun n2 => br_c (fun e4 => ?_) (fun n4 => ?_))
    · rw [if_pos (Or.inr (Or.inr (Or.inr (Or.inl e2))))] at h; exact ry_255 h
    · rw [if_pos (Or.inr (Or.inr (Or.inr (Or.inr e4))))] at h; exact ry_255 h
    · rw [if_neg (by rintro (z | z | z | z | z); exact n0 z; exact n5 z; exact n6 z; exact n2 z; exact n4 z)] at h
      exact br_t rfl (nm_r (lN_1 i) h)
  have h230 : ¬ lN i = 0 → ¬ (T = 5 ∧ w < best) → wY_run_230 post J T c B yr (lN i) x9 x10 best lm sr sc wy sp ya se fl w vt ot ra br oc it le tk cn kd nu lf la pc yb yh yk ho ap rd si vs os := by
    intro n0 n5
    refine br_c (fun e6 => br_c (fun hlt => ?_) (fun hn => h245 n0 n5 (fun z => hn z.2))) (fun n6 => h245 n0 n5 (fun z => n6 z.1))
    rw [if_pos (Or.inr (Or.inr (Or.inl ⟨e6, hlt⟩)))] at h; exact ry_255 h
  refine br_c (fun e0 => ?_) (fun n0 => br_c (fun e5 => br_c (fun hlt => ?_) (fun hn => h230 n0 (fun z => hn z.2))) (fun n5 => h230 n0 (fun z => n5 z.1)))
  · rw [if_pos (Or.inl e0)] at h; exact ry_255 h
  · rw [if_pos (Or.inr (Or.inl ⟨e5, hlt⟩))] at h; exact ry_255 h
theorem ry_176 {post : Int64 → SY → Prop} {J : (Int64 → Int64 → Int32 → Int32 → Int32 → Int32 → Int32 → Int32 → Int32 → Int32 → Int32 → Int32 → Int32 → Int32 → Int32 → Int32 → Int32 → Int32 → Int64 → (Nat → Int32) → (Nat → Int32) → (Nat → Int32) → (Nat → Int32) → (Nat → Int32) → (Nat → Int32) → (Nat → Int32) → (Nat → Int32) → (Nat → Int32) → (Nat → Int32) → (Nat → Int32) → (Nat → Int32) → (Nat → Int32) → (Nat → Int32) → (Nat → Int32) → (Nat → Int32) → (Nat → Int32) → (Nat → Int32) → Prop)} (h : J (ru_yr T yr w) (lN (i + 1)) x9 x10 (ru_bs T i best w) lm sr sc wy sp ya se fl w vt ot ra br oc it le tk cn kd nu lf la pc yb yh yk ho ap rd si vs os) : wY_run_176 post J T c B yr (lN i) x9 best x10 lm sr sc wy sp ya se fl w vt ot ra br oc it le tk cn kd nu lf la pc yb yh yk ho ap rd si vs os := by
  unfold ru_yr at h
  refine br_c (fun e7 => ?_) (fun n7 => ?_)
  · rw [if_pos e7] at h; exact ry_207 h
  · rw [if_neg n7] at h; exact ry_207 h
theorem ry_158 {post : Int64 → SY → Prop} {J : (Int64 → Int64 → Int32 → Int32 → Int32 → Int32 → Int32 → Int32 → Int32 → Int32 → Int32 → Int32 → Int32 → Int32 → Int32 → Int32 → Int32 → Int32 → Int64 → (Nat → Int32) → (Nat → Int32) → (Nat → Int32) → (Nat → Int32) → (Nat → Int32) → (Nat → Int32) → (Nat → Int32) → (Nat → Int32) → (Nat → Int32) → (Nat → Int32) → (Nat → Int32) → (Nat → Int32) → (Nat → Int32) → (Nat → Int32) → (Nat → Int32) → (Nat → Int32) → (Nat → Int32) → (Nat → Int32) → Prop)} (h : J (ru_yr T yr w) (lN (i + 1)) x9 (ru_hit T c w) (ru_bs T i best w) lm sr sc wy sp ya se fl w vt ot ra br oc it le tk cn kd nu lf la pc yb yh yk ho ap rd si vs os) : wY_run_158 post J T c B yr (lN i) x9 best lm sr sc wy sp ya se fl w vt ot ra br oc it le tk cn kd nu lf la pc yb yh yk ho ap rd si vs os := by
  unfold ru_hit at h
  refine br_c (fun e3 => br_c (fun hle => ?_) (fun hn => ?_)) (fun n3 => ?_)
  · rw [if_neg (fun z => z.2 hle)] at h; exact ry_176 h
  · rw [if_pos ⟨e3, hn⟩] at h; exact ry_176 h
  · rw [if_neg (fun z => n3 z.1)] at h; exact ry_176 h
theorem ru_up (tt : Nat) (htt : tt ≤ 8) (hi : i < 90000) (hR : ra_R tt c i xa yr best) (hse : tt = 8 → se = nI i ∧ i < 16) :
    ∃ (xa' : Int64) (se' : Int32) (si' : Nat → Int32), (ru_hit (nI tt) c w = 0 → ra_R tt c (i + 1) xa' (ru_yr (nI tt) yr w) (ru_bs (nI tt) i best w)) ∧ (¬ ru_hit (nI tt) c w = 0 → tt = 3 ∧ xa' = 1) ∧ (tt = 3 → ru_hit (nI tt) c w = 0 → ¬ xa' = 1) ∧ (tt = 8 → se' = nI (i + 1)) ∧ (tt ≠ 8 → se' = se) ∧
      (∀ post : Int64 → SX → Prop, post xa' (lm, pn, wp, sr, sc, se', fl, sp, en, pt, sg, w, rs, sn, it, le, pe, op, kd, nu, co, cl, ap, rd, si', bg, ct, ls, hd, hk, hc, vl) → wpX_answerWith post (lm, pn, wp, sr, sc, se, fl, sp, en, pt, sg, w, rs, sn, it, le, pe, op, kd, nu, co, cl, ap, rd, si, bg, ct, ls, hd, hk, hc, vl) (nI tt) c xa (lN i)) ∧
      (∀ (post : Int64 → SY → Prop) (J : (Int64 → Int64 → Int32 → Int32 → Int32 → Int32 → Int32 → Int32 → Int32 → Int32 → Int32 → Int32 → Int32 → Int32 → Int32 → Int32 → Int32 → Int32 → Int64 → (Nat → Int32) → (Nat → Int32) → (Nat → Int32) → (Nat → Int32) → (Nat → Int32) → (Nat → Int32) → (Nat → Int32) → (Nat → Int32) → (Nat → Int32) → (Nat → Int32) → (Nat → Int32) → (Nat → Int32) → (Nat → Int32) → (Nat → Int32) → (Nat → Int32) → (Nat → Int32) → (Nat → Int32) → (Nat → Int32) → Prop)), J (ru_yr (nI tt) yr w) (lN (i + 1)) 0 (ru_hit (nI tt) c w) (ru_bs (nI tt) i best w) lm sr sc wy sp ya se' fl w vt ot ra br oc it le tk cn kd nu lf la pc yb yh yk ho ap rd si' vs os → wY_run_125 post J (nI tt) c B yr (lN i) 0 best 0 lm sr sc wy sp ya se fl w vt ot ra br oc it le tk cn kd nu lf la pc yb yh yk ho ap rd si vs os) := by
  have hNo : ∀ tt : Nat, tt ≠ 3 → tt ≤ 8 → ru_hit (nI tt) c w = 0 := fun tt h3 h8 => if_neg (fun z => h3 ((nI_eq (b := 3) (by omega) (by omega)).mp z.1))
  have hY8 : ∀ tt : Nat, tt ≠ 8 → tt ≤ 8 → ∀ (post : Int64 → SY → Prop) (J : (Int64 → Int64 → Int32 → Int32 → Int32 → Int32 → Int32 → Int32 → Int32 → Int32 → Int32 → Int32 → Int32 → Int32 → Int32 → Int32 → Int32 → Int32 → Int64 → (Nat → Int32) → (Nat → Int32) → (Nat → Int32) → (Nat → Int32) → (Nat → Int32) → (Nat → Int32) → (Nat → Int32) → (Nat → Int32) → (Nat → Int32) → (Nat → Int32) → (Nat → Int32) → (Nat → Int32) → (Nat → Int32) → (Nat → Int32) → (Nat → Int32) → (Nat → Int32) → (Nat → Int32) → (Nat → Int32) → Prop)), J (ru_yr (nI tt) yr w) (lN (i + 1)) 0 (ru_hit (nI tt) c w) (ru_bs (nI tt) i best w) lm sr sc wy sp ya se fl w vt ot ra br oc it le tk cn kd nu lf la pc yb yh yk ho ap rd si vs os → wY_run_125 post J (nI tt) c B yr (lN i) 0 best 0 lm sr sc wy sp ya se fl w vt ot ra br oc it le tk cn kd nu lf la pc yb yh yk ho ap rd si vs os :=
    fun tt h8 h9 post J h => br_t rfl (br_f (fun z => h8 ((nI_eq (b := 8) (by omega) (by omega)).mp z)) (ry_158 h))
  have hi0 := lN_0 hi
  rcases ru_9 htt with rfl | rfl | rfl | rfl | rfl | rfl | rfl | rfl | rfl
  · -- COUNT
    refine ⟨xa + 1, se, si, fun _ => ?_, fun z => absurd (hNo 0 (by omega) (by omega)) z, fun z => absurd z (by omega), fun z => absurd z (by omega), fun _ => rfl, fun post hp => ?_, hY8 0 (by omega) (by omega)⟩
    · have hR : xa = lN i := hR
      show xa + 1 = lN (i + 1)
      rw [hR, lN_1]
    · exact br_f (by decide) (br_f (by decide) (br_t rfl hp))
  · -- SUM
    refine ⟨xa + w.toInt64, se, si, fun _ => ?_, fun z => absurd (hNo 1 (by omega) (by omega)) z, fun z => absurd z (by omega), fun z => absurd z (by omega), fun _ => rfl, fun post hp => ?_, hY8 1 (by omega) (by omega)⟩
    · have hR : xa = yr := hR
      show xa + w.toInt64 = ru_yr (nI 1) yr w
      rw [hR, ru_yr, if_neg (by decide)]
    · exact br_f (by decide) (br_f (by decide) (br_f (by decide) (br_t rfl hp)))
  · -- AT
    have eb : ru_bs (nI 2) i best w = w := if_pos (Or.inr (Or.inr (Or.inr (Or.inl rfl))))
    by_cases hc : lN i = c.toInt64
    · refine ⟨w.toInt64, se, si, fun _ => ?_, fun z => absurd (hNo 2 (by omega) (by omega)) z, fun z => absurd z (by omega), fun z => absurd z (by omega), fun _ => rfl, fun post hp => ?_, hY8 2 (by omega) (by omega)⟩
      · show w.toInt64 = if i + 1 ≠ 0 ∧ lN (i + 1 - 1) = c.toInt64 then (ru_bs (nI 2) i best w).toInt64 else 9000000000000000000
        rw [if_pos ⟨by omega, by rw [Nat.add_sub_cancel]; exact hc⟩, eb]
      · exact br_f (by decide) (br_f (by decide) (br_f (by decide) (br_f (by decide) (br_t rfl (br_t hc hp)))))
    · refine ⟨9000000000000000000, se, si, fun _ => ?_, fun z => absurd (hNo 2 (by omega) (by omega)) z, fun z => absurd z (by omega), fun z => absurd z (by omega), fun _ => rfl, fun post hp => ?_, hY8 2 (by omega) (by omega)⟩
      · show 9000000000000000000 = if i + 1 ≠ 0 ∧ lN (i + 1 - 1) = c.toInt64 then (ru_bs (nI 2) i best w).toInt64 else 9000000000000000000
        rw [if_neg (by rintro ⟨_, z⟩; rw [Nat.add_sub_cancel] at z; exact hc z)]
      · exact br_f (by decide) (br_f (by decide) (br_f (by decide) (br_f (by decide) (br_t rfl (br_f hc hp)))))
  · -- ANY
    by_cases hc : w ≤ c
    · have eh : ru_hit (nI 3) c w = 0 := if_neg (fun z => z.2 hc)
      refine ⟨0, se, si, fun _ => rfl, fun z => absurd eh z, fun _ _ => by decide, fun z => absurd z (by omega), fun _ => rfl, fun post hp => ?_, hY8 3 (by omega) (by omega)⟩
      exact br_f (by decide) (br_f (by decide) (br_f (by decide) (br_f (by decide) (br_f (by decide) (br_t rfl (br_t hc hp))))))
    · have eh : ru_hit (nI 3) c w = 1 := if_pos ⟨rfl, hc⟩
      refine ⟨1, se, si, fun z => absurd (eh.symm.trans z) (by decide), fun _ => ⟨rfl, rfl⟩, fun _ z => absurd (eh.symm.trans z) (by decide), fun z => absurd z (by omega), fun _ => rfl, fun post hp => ?_, hY8 3 (by omega) (by omega)⟩
      exact br_f (by decide) (br_f (by decide) (br_f (by decide) (br_f (by decide) (br_f (by decide) (br_t rfl (br_f hc hp))))))
  · -- LAST
    have eb : ru_bs (nI 4) i best w = w := if_pos (Or.inr (Or.inr (Or.inr (Or.inr rfl))))
    refine ⟨w.toInt64, se, si, fun _ => ?_, fun z => absurd (hNo 4 (by omega) (by omega)) z, fun z => absurd z (by omega), fun z => absurd z (by omega), fun _ => rfl, fun post hp => ?_, hY8 4 (by omega) (by omega)⟩
    · show w.toInt64 = if i + 1 = 0 then 9000000000000000000 else (ru_bs (nI 4) i best w).toInt64
      rw [if_neg (by omega), eb]
    · exact br_f (by decide) (br_f (by decide) (br_f (by decide) (br_f (by decide) (br_f (by decide) (br_f (by decide) (br_t rfl hp))))))
  · -- LEAST
    have hR : xa = if i = 0 then 9000000000000000000 else best.toInt64 := hR
    have hfin : ∀ v : Int32, v = ru_bs (nI 5) i best w → ra_R 5 c (i + 1) v.toInt64 (ru_yr (nI 5) yr w) (ru_bs (nI 5) i best w) := by
      intro v hv
      show v.toInt64 = if i + 1 = 0 then 9000000000000000000 else (ru_bs (nI 5) i best w).toInt64
      rw [if_neg (by omega), hv]
    by_cases e0 : i = 0
    · rw [if_pos e0] at hR
      refine ⟨w.toInt64, se, si, fun _ => hfin w (if_pos (Or.inl (hi0.mpr e0))).symm, fun z => absurd (hNo 5 (by omega) (by omega)) z, fun z => absurd z (by omega), fun z => absurd z (by omega), fun _ => rfl, fun post hp => ?_, hY8 5 (by omega) (by omega)⟩
      exact br_f (by decide) (br_f (by decide) (br_f (by decide) (br_f (by decide) (br_f (by decide) (br_f (by decide) (br_f (by decide) (br_t rfl (br_t hR hp))))))))
    · rw [if_neg e0] at hR
      have hne : ¬ xa = 9000000000000000000 := by rw [hR]; exact t64_ne best
      by_cases hle : best ≤ w
      · refine ⟨best.toInt64, se, si, fun _ => hfin best ?_, fun z => absurd (hNo 5 (by omega) (by omega)) z, fun z => absurd z (by omega), fun z => absurd z (by omega), fun _ => rfl, fun post hp => ?_, hY8 5 (by omega) (by omega)⟩
        · refine (if_neg ?_).symm
          rintro (z | ⟨_, z⟩ | ⟨z, _⟩ | z | z)
          · exact e0 (hi0.mp z)
          · exact Int32.not_lt.mpr hle z
          · exact absurd z (by decide)
          · exact absurd z (by decide)
          · exact absurd z (by decide)
        · exact br_f (by decide) (br_f (by decide) (br_f (by decide) (br_f (by decide) (br_f (by decide) (br_f (by decide) (br_f (by decide) (br_t rfl (br_f hne (br_t (by rw [hR, t64_le]; exact hle) (by rw [hR]; exact hp))))))))))
      · refine ⟨w.toInt64, se, si, fun _ => hfin w (if_pos (Or.inr (Or.inl ⟨rfl, Int32.not_le.mp hle⟩))).symm, fun z => absurd (hNo 5 (by omega) (by omega)) z, fun z => absurd z (by omega), fun z => absurd z (by omega), fun _ => rfl, fun post hp => ?_, hY8 5 (by omega) (by omega)⟩
        exact br_f (by decide) (br_f (by decide) (br_f (by decide) (br_f (by decide) (br_f (by decide) (br_f (by decide) (br_f (by decide) (br_t rfl (br_f hne (br_f (by rw [hR, t64_le]; exact hle) hp)))))))))
  · -- GREATEST
    have hR : xa = if i = 0 then 9000000000000000000 else best.toInt64 := hR
    have hfin : ∀ v : Int32, v = ru_bs (nI 6) i best w → ra_R 6 c (i + 1) v.toInt64 (ru_yr (nI 6) yr w) (ru_bs (nI 6) i best w) := by
      intro v hv
      show v.toInt64 = if i + 1 = 0 then 9000000000000000000 else (ru_bs (nI 6) i best w).toInt64
      rw [if_neg (by omega), hv]
    by_cases e0 : i = 0
    · rw [if_pos e0] at hR
      refine ⟨w.toInt64, se, si, fun _ => hfin w (if_pos (Or.inl (hi0.mpr e0))).symm, fun z => absurd (hNo 6 (by omega) (by omega)) z, fun z => absurd z (by omega), fun z => absurd z (by omega), fun _ => rfl, fun post hp => ?_, hY8 6 (by omega) (by omega)⟩
      exact br_f (by decide) (br_f (by decide) (br_f (by decide) (br_f (by decide) (br_f (by decide) (br_f (by decide) (br_f (by decide) (br_f (by decide) (br_t rfl (br_t hR hp)))))))))
    · rw [if_neg e0] at hR
      have hne : ¬ xa = 9000000000000000000 := by rw [hR]; exact t64_ne best
      by_cases hle : w ≤ best
      · refine ⟨best.toInt64, se, si, fun _ => hfin best ?_, fun z => absurd (hNo 6 (by omega) (by omega)) z, fun z => absurd z (by omega), fun z => absurd z (by omega), fun _ => rfl, fun post hp => ?_, hY8 6 (by omega) (by omega)⟩
        · refine (if_neg ?_).symm
          rintro (z | ⟨z, _⟩ | ⟨_, z⟩ | z | z)
          · exact e0 (hi0.mp z)
          · exact absurd z (by decide)
          · exact Int32.not_lt.mpr hle z
          · exact absurd z (by decide)
          · exact absurd z (by decide)
        · exact br_f (by decide) (br_f (by decide) (br_f (by decide) (br_f (by decide) (br_f (by decide) (br_f (by decide) (br_f (by decide) (br_f (by decide) (br_t rfl (br_f hne (br_t (by rw [hR, t64_le]; exact hle) (by rw [hR]; exact hp)))))))))))
      · refine ⟨w.toInt64, se, si, fun _ => hfin w (if_pos (Or.inr (Or.inr (Or.inl ⟨rfl, Int32.not_le.mp hle⟩)))).symm, fun z => absurd (hNo 6 (by omega) (by omega)) z, fun z => absurd z (by omega), fun z => absurd z (by omega), fun _ => rfl, fun post hp => ?_, hY8 6 (by omega) (by omega)⟩
        exact br_f (by decide) (br_f (by decide) (br_f (by decide) (br_f (by decide) (br_f (by decide) (br_f (by decide) (br_f (by decide) (br_f (by decide) (br_t rfl (br_f hne (br_f (by rw [hR, t64_le]; exact hle) hp))))))))))
  · -- DIGEST
    refine ⟨xa * 31 + w.toInt64, se, si, fun _ => ?_, fun z => absurd (hNo 7 (by omega) (by omega)) z, fun z => absurd z (by omega), fun z => absurd z (by omega), fun _ => rfl, fun post hp => ?_, hY8 7 (by omega) (by omega)⟩
    · have hR : xa = yr := hR
      show xa * 31 + w.toInt64 = ru_yr (nI 7) yr w
      rw [hR, ru_yr, if_pos (by decide)]
    · exact br_f (by decide) (br_f (by decide) (br_f (by decide) (br_f (by decide) (br_f (by decide) (br_f (by decide) (br_f (by decide) (br_f (by decide) (br_f (by decide) (br_t rfl hp)))))))))
  · -- LIST
    obtain ⟨hs1, hs2⟩ := hse rfl
    subst hs1
    have hin : vp_in (nI i) 16 := vp_in_nI hs2 (by omega)
    refine ⟨lN (i + 1), nI (i + 1), upd si i w, fun _ => rfl, fun z => absurd (hNo 8 (by omega) (by omega)) z, fun z => absurd z (by omega), fun _ => rfl, fun z => absurd rfl z, fun post hp => ?_, fun post J hJ => ?_⟩
    · refine br_f (by decide) (br_f (by decide) (br_f (by decide) (br_f (by decide) (br_f (by decide) (br_f (by decide) (br_f (by decide) (br_f (by decide) (br_f (by decide) (br_f (by decide) (br_t rfl (br_f (nI_ge (b := 16) hs2 (by decide)) ⟨hin, nm_r (e' := upd si i w) (by rw [nI_clamp (by omega)]) (nm_r (nI_1 i) ?_)⟩)))))))))))
      rw [nI_l (by omega)]; exact hp
    · exact br_t rfl (br_t rfl (nm_r (nI_1 i) ⟨hin, nm_r (e' := upd si i w) (by rw [nI_clamp (by omega)]) (ry_158 hJ)⟩))
end
end
section
def ru_B (T c : Int32) : Int64 := if T = 2 then c.toInt64 + 1 else if T = 8 then (if 16 ≤ c then 16 else c.toInt64) else 1000000
def rx_W (post : Int64 → SX → Prop) (T c : Int32) (B : Int64) (n : Nat) (xa : Int64) (x7 : Int32) (x8 : Int64) (u : SX) : Prop := match u with
  | (a1, a2, a3, a4, a5, a6, a7, a8, a9, a10, a11, a12, a13, a14, a15, a16, a17, a18, a19, a20, a21, a22, a23, a24, a25, a26, a27, a28, a29, a30, a31, a32) => wX_run_36 post T c B n xa x7 x8 a1 a2 a3 a4 a5 a6 a7 a8 a9 a10 a11 a12 a13 a14 a15 a16 a17 a18 a19 a20 a21 a22 a23 a24 a25 a26 a27 a28 a29 a30 a31 a32
def ry_W (post : Int64 → SY → Prop) (T c : Int32) (B : Int64) (n : Nat) (yr x7 : Int64) (x9 x10 x11 : Int32) (u : SY) : Prop := match u with
  | (a1, a2, a3, a4, a5, a6, a7, a8, a9, a10, a11, a12, a13, a14, a15, a16, a17, a18, a19, a20, a21, a22, a23, a24, a25, a26, a27, a28, a29, a30, a31, a32) => wY_run_81 post T c B n yr x7 x9 x10 x11 a1 a2 a3 a4 a5 a6 a7 a8 a9 a10 a11 a12 a13 a14 a15 a16 a17 a18 a19 a20 a21 a22 a23 a24 a25 a26 a27 a28 a29 a30 a31 a32
theorem at_le {i : Nat} (hi : i < 100000) (c : Int32) : c.toInt64 + 1 ≤ lN i ↔ c.toInt + 1 ≤ (i : Int) := by
  have h1 := Int32.toInt_lt c
  have h2 := Int32.le_toInt c
  have e : (c.toInt64 + 1).toInt = c.toInt + 1 := by
    rw [Int64.toInt_add, Int32.toInt_toInt64, show (1 : Int64).toInt = 1 from by decide]
    exact Int.bmod_eq_of_le (by omega) (by omega)
  rw [Int64.le_iff_toInt_le, e, lN_toInt (by omega)]
theorem at_eq {i : Nat} (hi : i < 100000) (c : Int32) : lN i = c.toInt64 ↔ (i : Int) = c.toInt := by
  rw [← Int64.toInt_inj, lN_toInt (by omega), Int32.toInt_toInt64]
theorem ls_16 {i : Nat} (hi : i < 100000) (c : Int32) (h : ¬ ru_B (nI 8) c ≤ lN i) : i < 16 := by
  unfold ru_B at h
  rw [if_neg (by decide), if_pos (by decide)] at h
  by_cases h16 : 16 ≤ c
  · rw [if_pos h16, show (16 : Int64) = lN 16 from rfl, lN_le (by omega) (by omega)] at h
    omega
  · rw [if_neg h16, Int64.le_iff_toInt_le, lN_toInt (by omega), Int32.toInt_toInt64] at h
    rw [Int32.le_iff_toInt_le, show (16 : Int32).toInt = 16 from by decide] at h16
    omega
section
variable {lm pn wp sr sc se fl sp pt sg el rs sn wy ya vv vt ot ra br : Int32} {en oc : Int64} {it le pe op kd nu co cl ap rd si bg ct ls hd hk hc vl tk cn lf la pc yb yh yk ho vs os : Nat → Int32}
variable {i : Nat} {c w best T x9 x10 : Int32} {B yr z0 xa : Int64} {S L m : Nat}
theorem ry_fin (tt : Nat) (htt : tt ≤ 8) (hi : i < 90000) (hR : ra_R tt c i xa yr best) (hAT : tt = 2 → i ≠ 0 → (x9 = 0 ↔ lN (i - 1) = c.toInt64)) {post : Int64 → SY → Prop} (h : post xa (lm, sr, sc, wy, sp, ya, se, fl, vv, vt, ot, ra, br, oc, it, le, tk, cn, kd, nu, lf, la, pc, yb, yh, yk, ho, ap, rd, si, vs, os)) : wY_run_282 post (nI tt) yr (lN i) x9 0 best lm sr sc wy sp ya se fl vv vt ot ra br oc it le tk cn kd nu lf la pc yb yh yk ho ap rd si vs os := by
  have hi0 := lN_0 hi
  have h371 : xa = (if i = 0 then 9000000000000000000 else best.toInt64) → wY_run_371 post (lN i) best lm sr sc wy sp ya se fl vv vt ot ra br oc it le tk cn kd nu lf la pc yb yh yk ho ap rd si vs os := by
    intro e
    refine br_c (fun z => ?_) (fun z => ?_)
    · rw [if_pos (hi0.mp z)] at e; rw [e] at h; exact h
    · rw [if_neg (fun y => z (hi0.mpr y))] at e; rw [e] at h; exact h
  rcases ru_9 htt with rfl | rfl | rfl | rfl | rfl | rfl | rfl | rfl | rfl
  · have hR : xa = lN i := hR
    rw [hR] at h
    exact br_f (by decide) (br_f (by decide) (br_t rfl h))
  · have hR : xa = yr := hR
    rw [hR] at h
    exact br_f (by decide) (br_f (by decide) (br_f (by decide) (br_t rfl h)))
  · have hR : xa = if i ≠ 0 ∧ lN (i - 1) = c.toInt64 then best.toInt64 else 9000000000000000000 := hR
    refine br_f (by decide) (br_f (by decide) (br_f (by decide) (br_f (by decide) (br_t rfl (br_c (fun z => ?_) (fun z => br_c (fun z9 => ?_) (fun z9 => ?_)))))))
    · rw [if_neg (fun y => y.1 (hi0.mp z))] at hR; rw [hR] at h; exact h
    · have n0 : i ≠ 0 := fun y => z (hi0.mpr y)
      rw [if_pos ⟨n0, (hAT rfl n0).mp z9⟩] at hR; rw [hR] at h; exact h
    · have n0 : i ≠ 0 := fun y => z (hi0.mpr y)
      rw [if_neg (fun y => z9 ((hAT rfl n0).mpr y.2))] at hR; rw [hR] at h; exact h
  · have hR : xa = 0 := hR
    rw [hR] at h
    exact br_f (by decide) (br_f (by decide) (br_f (by decide) (br_f (by decide) (br_f (by decide) (br_t rfl (br_t rfl h))))))
  · exact br_f (by decide) (br_f (by decide) (br_f (by decide) (br_f (by decide) (br_f (by decide) (br_f (by decide) (br_t rfl (h371 hR)))))))
  · exact br_f (by decide) (br_f (by decide) (br_f (by decide) (br_f (by decide) (br_f (by decide) (br_f (by decide) (br_f (by decide) (br_t rfl (h371 hR))))))))
  · exact br_f (by decide) (br_f (by decide) (br_f (by decide) (br_f (by decide) (br_f (by decide) (br_f (by decide) (br_f (by decide) (br_f (by decide) (br_t rfl (h371 hR)))))))))
  · have hR : xa = yr := hR
    rw [hR] at h
    exact br_f (by decide) (br_f (by decide) (br_f (by decide) (br_f (by decide) (br_f (by decide) (br_f (by decide) (br_f (by decide) (br_f (by decide) (br_f (by decide) (br_t rfl h)))))))))
  · have hR : xa = lN i := hR
    rw [hR] at h
    exact br_f (by decide) (br_f (by decide) (br_f (by decide) (br_f (by decide) (br_f (by decide) (br_f (by decide) (br_f (by decide) (br_f (by decide) (br_f (by decide) (br_f (by decide) (br_t rfl h))))))))))
theorem ru_loop (hSt : ∀ t, t < S → rl_St kd nu co cl tk cn t) (hle : rl_L le) (hS : S ≤ 8) (hL0 : 20 ≤ L) (hL : L ≤ 150) (hm : m < 3) (hP0 : rl_P pn pe tk cn) (tt : Nat) (htt : tt ≤ 8) :
    ∀ (d P i : Nat) (se best : Int32) (si : Nat → Int32) (xa yr : Int64) (u : SX) (v : SY), 100000 ≤ P + d → i ≤ P → rb_B pn wp se wp 1 it le pe op kd nu co cl si tk cn L S m P u v → ra_R tt c i xa yr best → (tt = 8 → se = nI i) → (∃ z : Nat, z ≤ 16 ∧ se = nI z) → (i ≠ 0 → ¬ ru_B (nI tt) c ≤ lN (i - 1)) →
    ∃ (res : Int64) (ue : SX) (ve : SY), (∀ kk : Nat, i_Rel kk ue ve) ∧ (∀ (post : Int64 → SX → Prop) (nf : Nat), d < nf → post res ue → rx_W post (nI tt) c (ru_B (nI tt) c) nf xa 0 (lN i) u) ∧ (∀ (post : Int64 → SY → Prop) (nf : Nat), d < nf → post res ve → ry_W post (nI tt) c (ru_B (nI tt) c) nf yr (lN i) 0 0 best v) := by
  have hSr : ∃ m2 : Nat, m2 < 3 ∧ nI m = nI m2 := ⟨m, hm, rfl⟩
  have hM : rl_M (nI L) := ⟨L, hL0, hL, rfl⟩
  have hSS : rl_S (nI S) kd nu co cl tk cn := ⟨S, hS, rfl, hSt⟩
  have hA : ∀ ap rd : Nat → Int32, rl_A 1 ap rd := fun _ _ z => absurd z (by decide)
  intro d
  induction d using Nat.strongRecOn with
  | _ d IH =>
    intro P i se best si xa yr u v hPd hiP hB hR h8 hse hI
    have hPull := pl_pull hSt hle hS hL hm hB
    obtain ⟨q, g, e, r, b, fl, pt, sg, el, rs, sn, ya, vv, vt, ot, br, oc, ap, rd, bg, ct, ls, hd, hk, hc, lf, la, pc, yb, yh, yk, ho, vl, vs, os, rfl, rfl, rfl, hD⟩ := hB
    have hPb := dd_bound hS hL (by omega) hD
    by_cases hBi : ru_B (nI tt) c ≤ lN i
    · -- asked often enough
      refine ⟨xa, (nI L, pn, wp, nI m, nI S, se, fl, nI q, 0, pt, sg, el, rs, sn, it, le, pe, op, kd, nu, co, cl, ap, rd, si, bg, ct, ls, hd, hk, hc, vl), (nI L, nI m, nI S, wp, nI q, ya, se, fl, vv, vt, ot, 1, br, oc, it, le, tk, cn, kd, nu, lf, la, pc, yb, yh, yk, ho, ap, rd, si, vs, os), fun kk => rl_mk kk hM hP0 hSr hSS hle hse (hA _ _), fun post nf hf hp => ?_, fun post nf hf hp => ?_⟩
      · obtain ⟨f, rfl⟩ : ∃ f, nf = f + 1 := ⟨nf - 1, by omega⟩
        exact br_t hBi (br_t rfl hp)
      · obtain ⟨f, rfl⟩ : ∃ f, nf = f + 1 := ⟨nf - 1, by omega⟩
        refine br_t hBi (ry_fin tt htt (by omega) hR (fun h2 n0 => ?_) hp)
        subst h2
        refine ⟨fun _ => ?_, fun _ => rfl⟩
        have h1 := hI n0
        unfold ru_B at hBi h1
        rw [if_pos (by decide), at_le (by omega)] at hBi h1
        rw [at_eq (by omega)]
        omega
    · obtain ⟨o, u', v', hres, gx, gy⟩ := hPull
      rcases hres with ⟨rfl, ho⟩ | ⟨rfl, ho⟩ | ⟨rfl, w, P', hP', ho⟩
      · -- the run has been stopped, or has failed
        obtain ⟨q2, oe, fl2, pt2, sg2, el2, rs2, sn2, ya2, vv2, vt2, ot2, br2, ap2, rd2, bg2, ct2, ls2, hd2, hk2, hc2, lf2, la2, pc2, yb2, yh2, yk2, ho2, vl2, vs2, os2, h1, rfl, rfl⟩ := ho
        refine ⟨oe, (nI L, pn, wp, nI m, nI S, se, fl2, nI q2, oe, pt2, sg2, el2, rs2, sn2, it, le, pe, op, kd, nu, co, cl, ap2, rd2, si, bg2, ct2, ls2, hd2, hk2, hc2, vl2), (nI L, nI m, nI S, wp, nI q2, ya2, se, fl2, vv2, vt2, ot2, 1, br2, oe, it, le, tk, cn, kd, nu, lf2, la2, pc2, yb2, yh2, yk2, ho2, ap2, rd2, si, vs2, os2), fun kk => rl_mk kk hM hP0 hSr hSS hle hse (hA _ _), fun post nf hf hp => ?_, fun post nf hf hp => ?_⟩
        · obtain ⟨f, rfl⟩ : ∃ f, nf = f + 1 + 1 := ⟨nf - 2, by omega⟩
          refine br_f hBi (br_t rfl (gx _ ?_))
          exact br_t rfl (nm_e (br_c (fun _ => br_f h1 hp) (fun _ => br_f (by decide) (br_f h1 hp))))
        · obtain ⟨f, rfl⟩ : ∃ f, nf = f + 1 := ⟨nf - 1, by omega⟩
          refine br_f hBi (br_t rfl (br_t rfl (gy _ ?_)))
          exact br_t rfl hp
      · -- the pipeline has ended
        obtain ⟨q2, fl2, pt2, sg2, el2, rs2, sn2, ya2, vv2, vt2, ot2, br2, oc2, ap2, rd2, bg2, ct2, ls2, hd2, hk2, hc2, lf2, la2, pc2, yb2, yh2, yk2, ho2, vl2, vs2, os2, rfl, rfl⟩ := ho
        refine ⟨xa, (nI L, pn, wp, nI m, nI S, se, fl2, nI q2, 0, pt2, sg2, el2, rs2, sn2, it, le, pe, op, kd, nu, co, cl, ap2, rd2, si, bg2, ct2, ls2, hd2, hk2, hc2, vl2), (nI L, nI m, nI S, wp, nI q2, ya2, se, fl2, vv2, vt2, ot2, 1, br2, oc2, it, le, tk, cn, kd, nu, lf2, la2, pc2, yb2, yh2, yk2, ho2, ap2, rd2, si, vs2, os2), fun kk => rl_mk kk hM hP0 hSr hSS hle hse (hA _ _), fun post nf hf hp => ?_, fun post nf hf hp => ?_⟩
        · obtain ⟨f, rfl⟩ : ∃ f, nf = f + 1 + 1 := ⟨nf - 2, by omega⟩
          refine br_f hBi (br_t rfl (gx _ ?_))
          exact br_t rfl (nm_e (br_c (fun _ => br_t rfl hp) (fun _ => br_f (by decide) (br_t rfl hp))))
        · obtain ⟨f, rfl⟩ : ∃ f, nf = f + 1 + 1 := ⟨nf - 2, by omega⟩
          refine br_f hBi (br_t rfl (br_t rfl (gy _ ?_)))
          refine br_f (by decide) (br_t rfl (br_f (by decide) (br_f hBi (br_f (by decide) (ry_fin tt htt (by omega) hR (fun h2 n0 => ?_) hp)))))
          subst h2
          refine ⟨fun z => absurd z (by decide), fun z => absurd ?_ hBi⟩
          unfold ru_B
          rw [if_pos (by decide), at_le (by omega)]
          rw [at_eq (by omega)] at z
          omega
      · -- an element has come
        obtain ⟨q2, g2, e2, r2, b2, fl2, pt2, sg2, rs2, sn2, ya2, vt2, ot2, br2, oc2, ap2, rd2, bg2, ct2, ls2, hd2, hk2, hc2, lf2, la2, pc2, yb2, yh2, yk2, ho2, vl2, vs2, os2, rfl, rfl, rfl, hD2⟩ := ho
        obtain ⟨xa', se', si', k1, k2, k3, k4, k5, kX, kY⟩ := ru_up (lm := nI L) (pn := pn) (wp := wp) (sr := nI m) (sc := nI S) (se := se) (fl := fl2) (sp := nI q2) (pt := pt2) (sg := sg2) (rs := rs2) (sn := sn2) (wy := wp) (ya := ya2) (vt := vt2) (ot := ot2) (ra := 1) (br := br2) (en := 0) (oc := oc2) (it := it) (le := le) (pe := pe) (op := op) (kd := kd) (nu := nu) (co := co) (cl := cl) (ap := ap2) (rd := rd2) (si := si) (bg := bg2) (ct := ct2) (ls := ls2) (hd := hd2) (hk := hk2) (hc := hc2) (vl := vl2) (tk := tk) (cn := cn) (lf := lf2) (la := la2) (pc := pc2) (yb := yb2) (yh := yh2) (yk := yk2) (ho := ho2) (vs := vs2) (os := os2) (w := w) (B := ru_B (nI tt) c) tt htt (by omega) hR (fun z => ⟨h8 z, by subst z; exact ls_16 (by omega) c hBi⟩)
        have hse' : ∃ z : Nat, z ≤ 16 ∧ se' = nI z := by
          by_cases e8 : tt = 8
          · refine ⟨i + 1, ?_, k4 e8⟩
            subst e8
            have := ls_16 (by omega) c hBi
            omega
          · rw [k5 e8]; exact hse
        by_cases hhit : ru_hit (nI tt) c w = 0
        · obtain ⟨res, ue, ve, j1, j2, j3⟩ := IH (d - 1) (by omega) (rn_P S g2 b2 0 S) (i + 1) se' (ru_bs (nI tt) i best w) si' xa' (ru_yr (nI tt) yr w) (nI L, pn, wp, nI m, nI S, se', fl2, nI q2, 0, pt2, sg2, w, rs2, sn2, it, le, pe, op, kd, nu, co, cl, ap2, rd2, si', bg2, ct2, ls2, hd2, hk2, hc2, vl2) (nI L, nI m, nI S, wp, nI q2, ya2, se', fl2, w, vt2, ot2, 1, br2, oc2, it, le, tk, cn, kd, nu, lf2, la2, pc2, yb2, yh2, yk2, ho2, ap2, rd2, si', vs2, os2) (by omega) (by omega)
            ⟨q2, g2, e2, r2, b2, fl2, pt2, sg2, w, rs2, sn2, ya2, w, vt2, ot2, br2, oc2, ap2, rd2, bg2, ct2, ls2, hd2, hk2, hc2, lf2, la2, pc2, yb2, yh2, yk2, ho2, vl2, vs2, os2, rfl, rfl, rfl, hD2⟩ (k1 hhit) k4 hse' (fun _ => by rw [Nat.add_sub_cancel]; exact hBi)
          refine ⟨res, ue, ve, j1, fun post nf hf hp => ?_, fun post nf hf hp => ?_⟩
          · obtain ⟨f, rfl⟩ : ∃ f, nf = f + 1 := ⟨nf - 1, by omega⟩
            have hj := j2 post f (by omega) hp
            refine br_f hBi (br_t rfl (gx _ ?_))
            refine br_f (by decide) (kX _ ?_)
            exact br_c (fun e3 => br_f (k3 ((nI_eq (b := 3) (by omega) (by omega)).mp e3) hhit) (nm_r (lN_1 i) hj)) (fun _ => nm_r (lN_1 i) hj)
          · obtain ⟨f, rfl⟩ : ∃ f, nf = f + 1 := ⟨nf - 1, by omega⟩
            have hj := j3 post f (by omega) hp
            refine br_f hBi (br_t rfl (br_t rfl (gy _ ?_)))
            refine br_f (by decide) (br_f (by decide) (kY _ _ ?_))
            rw [hhit]
            exact hj
        · obtain ⟨h3, hx1⟩ := k2 hhit
          subst h3
          subst hx1
          have hh1 : ru_hit (nI 3) c w = 1 := by
            unfold ru_hit at hhit ⊢
            by_cases z : nI 3 = 3 ∧ ¬ w ≤ c
            · exact if_pos z
            · exact absurd (if_neg z) hhit
          refine ⟨1, (nI L, pn, wp, nI m, nI S, se', fl2, nI q2, 0, pt2, sg2, w, rs2, sn2, it, le, pe, op, kd, nu, co, cl, ap2, rd2, si', bg2, ct2, ls2, hd2, hk2, hc2, vl2), (nI L, nI m, nI S, wp, nI q2, ya2, se', fl2, w, vt2, ot2, 1, br2, oc2, it, le, tk, cn, kd, nu, lf2, la2, pc2, yb2, yh2, yk2, ho2, ap2, rd2, si', vs2, os2), fun kk => rl_mk kk hM hP0 hSr hSS hle hse' (hA _ _), fun post nf hf hp => ?_, fun post nf hf hp => ?_⟩
          · obtain ⟨f, rfl⟩ : ∃ f, nf = f + 1 + 1 := ⟨nf - 2, by omega⟩
            refine br_f hBi (br_t rfl (gx _ ?_))
            refine br_f (by decide) (kX _ ?_)
            exact br_t rfl (br_t rfl (nm_e (br_c (fun _ => br_t rfl hp) (fun _ => br_f (by decide) (br_t rfl hp)))))
          · obtain ⟨f, rfl⟩ : ∃ f, nf = f + 1 + 1 := ⟨nf - 2, by omega⟩
            refine br_f hBi (br_t rfl (br_t rfl (gy _ ?_)))
            refine br_f (by decide) (br_f (by decide) (kY _ _ ?_))
            rw [hh1]
            have h282 : wY_run_282 post (nI 3) (ru_yr (nI 3) yr w) (lN (i + 1)) 0 1 (ru_bs (nI 3) i best w) (nI L) (nI m) (nI S) wp (nI q2) ya2 se' fl2 w vt2 ot2 1 br2 oc2 it le tk cn kd nu lf2 la2 pc2 yb2 yh2 yk2 ho2 ap2 rd2 si' vs2 os2 :=
              br_f (by decide) (br_f (by decide) (br_f (by decide) (br_f (by decide) (br_f (by decide) (br_t rfl (br_f (by decide) hp))))))
            exact br_c (fun _ => h282) (fun _ => br_t rfl (br_f (by decide) h282))
end
end
section
theorem xr_most {post : Int64 → Prop} {T c : Int32} (h : post (ru_B T c)) : wpX_mostAsks post T c :=
  br_ite (fun _ z => z) (fun _ => br_ite (fun _ => br_ite (fun _ z => z) (fun _ z => z)) (fun _ z => z)) h
theorem xr_noth (tt : Nat) (htt : tt ≤ 8) (c : Int32) : ∃ xa : Int64, ra_R tt c 0 xa (if nI tt = 7 then 1 else 0) 0 ∧ ∀ post : Int64 → Prop, post xa → wpX_answerForNothing post (nI tt) := by
  rcases ru_9 htt with rfl | rfl | rfl | rfl | rfl | rfl | rfl | rfl | rfl
  · exact ⟨0, rfl, fun post h => br_f (by decide) (br_f (by decide) (br_t rfl h))⟩
  · exact ⟨0, rfl, fun post h => br_f (by decide) (br_f (by decide) (br_f (by decide) (br_t rfl h)))⟩
  · exact ⟨9000000000000000000, (if_neg (fun z => z.1 rfl)).symm, fun post h => br_f (by decide) (br_f (by decide) (br_f (by decide) (br_f (by decide) (br_t rfl h))))⟩
  · exact ⟨0, rfl, fun post h => br_f (by decide) (br_f (by decide) (br_f (by decide) (br_f (by decide) (br_f (by decide) (br_t rfl h)))))⟩
  · exact ⟨9000000000000000000, (if_pos rfl).symm, fun post h => br_f (by decide) (br_f (by decide) (br_f (by decide) (br_f (by decide) (br_f (by decide) (br_f (by decide) (br_t rfl h))))))⟩
  · exact ⟨9000000000000000000, (if_pos rfl).symm, fun post h => br_f (by decide) (br_f (by decide) (br_f (by decide) (br_f (by decide) (br_f (by decide) (br_f (by decide) (br_f (by decide) (br_t rfl h)))))))⟩
  · exact ⟨9000000000000000000, (if_pos rfl).symm, fun post h => br_f (by decide) (br_f (by decide) (br_f (by decide) (br_f (by decide) (br_f (by decide) (br_f (by decide) (br_f (by decide) (br_f (by decide) (br_t rfl h))))))))⟩
  · exact ⟨1, rfl, fun post h => br_f (by decide) (br_f (by decide) (br_f (by decide) (br_f (by decide) (br_f (by decide) (br_f (by decide) (br_f (by decide) (br_f (by decide) (br_f (by decide) (br_t rfl h)))))))))⟩
  · exact ⟨0, rfl, fun post h => br_f (by decide) (br_f (by decide) (br_f (by decide) (br_f (by decide) (br_f (by decide) (br_f (by decide) (br_f (by decide) (br_f (by decide) (br_f (by decide) (br_f (by decide) (br_t rfl h))))))))))⟩
theorem i_vc_run {k : Nat} {u : SX} {v : SY} (I : i_Rel k u v) (hk : k + 4 ≤ 2049) (v1 : Int32) (v2 : Int32) : wpX_run (fun r u' => wpY_run (fun r' v' => r' = r ∧ i_Rel (k + 4) u' v') v v1 v2) u v1 v2 := by
  have I' := i_up I
  obtain ⟨lm, pn, wp, sr, sc, se, fl, sp, py, pt, sg, el, rs, sn, ya, vv, vt, ot, ra, br, en, oc, it, le, pe, op, kd, nu, co, cl, ap, rd, si, bg, ct, ls, hd, hk, hc, vl, tk, cn, lf, la, pc, yb, yh, yk, ho, vs, os, rfl, rfl, hM, hP, hSr, hS, hL, hC, hA⟩ := I
  by_cases h0 : v1 < 0
  · exact br_t h0 (br_t h0 ⟨rfl, I'⟩)
  · by_cases h8 : v1 ≤ 8
    · obtain ⟨tt, htt, rfl⟩ := nI_of2 (M := 8) (n := 8) (by decide) h0 h8
      obtain ⟨L, hL0, hL1, rfl⟩ := hM
      obtain ⟨m, hm, rfl⟩ := hSr
      obtain ⟨S, hS8, rfl, hSt⟩ := hS
      obtain ⟨P, hB⟩ := rb_0 (pn := pn) (wp := wp) (pt := pt) (sg := sg) (el := el) (rs := rs) (it := it) (le := le) (pe := pe) (op := op) (kd := kd) (nu := nu) (co := co) (cl := cl) (ap := ap) (rd := rd) (si := si) (bg := bg) (ct := ct) (ls := ls) (hd := hd) (hk := hk) (hc := hc) (vl := vl) (vv := vv) (vt := vt) (ot := ot) (br := br) (oc := oc) (tk := tk) (cn := cn) (lf := lf) (la := la) (pc := pc) (yb := yb) (yh := yh) (yk := yk) (ho := ho) (vs := vs) (os := os) (L := L) (m := m) hSt hS8
      obtain ⟨xa, hR, hN⟩ := xr_noth tt htt v2
      obtain ⟨res, ue, ve, j1, j2, j3⟩ := ru_loop hSt hL hS8 hL0 hL1 hm hP tt htt 100000 P 0 0 0 si xa (if nI tt = 7 then 1 else 0) _ _ (by omega) (by omega) hB hR (fun _ => rfl) ⟨0, by omega, rfl⟩ (fun z => absurd rfl z)
      have hX : ∀ post : Int64 → SX → Prop, post res ue → wpX_run post (nI L, pn, wp, nI m, nI S, se, fl, sp, en, pt, sg, el, rs, sn, it, le, pe, op, kd, nu, co, cl, ap, rd, si, bg, ct, ls, hd, hk, hc, vl) (nI tt) v2 := fun post h => by
        refine br_f h0 (br_t h8 (xr_start ?_))
        refine xr_most ?_
        exact hN _ ⟨100001, j2 post 100001 (by omega) h⟩
      have hY : ∀ post : Int64 → SY → Prop, post res ve → wpY_run post (nI L, nI m, nI S, wp, py, ya, se, fl, vv, vt, ot, ra, br, oc, it, le, tk, cn, kd, nu, lf, la, pc, yb, yh, yk, ho, ap, rd, si, vs, os) (nI tt) v2 := fun post h => by
        refine br_f h0 (br_t h8 (yr_begin ?_))
        have hW := j3 post 100001 (by omega) h
        have h55 : ∀ z : Int64, z = ru_B (nI tt) v2 → wY_run_55 post (nI tt) v2 z (nI L) (nI m) (nI S) wp 0 0 0 (-1) vv vt ot 1 br oc it le tk cn kd nu (zr_z lf 8) (zr_z la 8) (zr_z pc 8) (zr_z yb 8) yh yk (zr_z ho 8) (zr_z ap 8) (zr_z rd 3) si vs os := by
          intro z hz
          subst hz
          refine br_c (fun e7 => ?_) (fun n7 => ?_)
          · rw [if_pos e7] at hW; exact ⟨100001, hW⟩
          · rw [if_neg n7] at hW; exact ⟨100001, hW⟩
        refine br_c (fun e2 => h55 _ ?_) (fun n2 => br_c (fun e8 => br_c (fun hle => h55 _ ?_) (fun hn => h55 _ ?_)) (fun n8 => h55 _ ?_))
        · unfold ru_B; rw [if_pos e2, Int64.add_comm]
        · unfold ru_B
          rw [if_neg n2, if_pos e8]
          by_cases h16 : 16 ≤ v2
          · rw [if_pos h16]
            have : v2 = 16 := Int32.le_antisymm hle h16
            rw [this]; decide
          · rw [if_neg h16]
        · unfold ru_B
          rw [if_neg n2, if_pos e8, if_pos (Int32.le_of_lt (Int32.not_le.mp hn))]; decide
        · unfold ru_B; rw [if_neg n2, if_neg n8]
      exact hX _ (hY _ ⟨rfl, j1 _⟩)
    · exact br_f h0 (br_f h8 (br_f h0 (br_f h8 ⟨rfl, I'⟩)))
end
