/-! ===== the world: 71 cells of the class, 9 of the reference; g : cell, slot -> Int32 ===== -/
abbrev z_G : Type := Nat → Nat → Int32
abbrev z_X : Type := (Nat → ClassId) × (Nat → Nat → Nat) × (Nat → Nat) × (Nat → ClassId) × Nat × Nat × Nat × Nat
abbrev z_D (X : z_X) : va_G := (X.1, X.2.1)
abbrev z_ad (X : z_X) : Nat → Nat := X.2.2.1
abbrev z_cA (X : z_X) : Nat → ClassId := X.2.2.2.1
abbrev z_N (X : z_X) : Nat := X.2.2.2.2.1
abbrev z_S0 (X : z_X) : Nat := X.2.2.2.2.2.1
abbrev z_t0 (X : z_X) : Nat := X.2.2.2.2.2.2.1
abbrev z_t1 (X : z_X) : Nat := X.2.2.2.2.2.2.2
def z_A (X : z_X) : Nat → Prop := fun q => z_S0 X ≤ q
def z_tys (X : z_X) : List (ClassId × FieldType) := [(z_cA X 0, .int), (z_cA X 1, .char), (z_cA X 2, .byte), (z_cA X 3, .object "BootsTurnHome$Column")]
def z_w (N : Nat) (ad : Nat → Nat) (w : Nat → va_E) : va_W := (List.range N).map (fun k => (ad k, w k))
theorem z_w_at {N : Nat} {ad : Nat → Nat} {w : Nat → va_E} {k : Nat} (hk : k < N) : (z_w N ad w)[k]? = some (ad k, w k) := by
  unfold z_w
  rw [List.getElem?_map, List.getElem?_range hk]
  rfl
theorem z_w_e {N : Nat} {ad : Nat → Nat} {w : Nat → va_E} {k : Nat} {e : va_E} (hk : k < N) (he : w k = e) : (z_w N ad w)[k]? = some (ad k, e) := by
  rw [z_w_at hk, he]
theorem z_w_set {N : Nat} {ad : Nat → Nat} {w : Nat → va_E} {k : Nat} {e : va_E} : (z_w N ad w).set k (ad k, e) = z_w N ad (va_up w k e) := by
  apply List.ext_getElem?
  intro i
  by_cases hi : i < N
  · by_cases h : i = k
    · subst h
      rw [z_w_at hi, List.getElem?_set_self (by simp [z_w, hi])]
      simp [va_up]
    · rw [List.getElem?_set_ne (Ne.symm h), z_w_at hi, z_w_at hi]
      simp [va_up, h]
  · have h1 : (z_w N ad w).length = N := by simp [z_w]
    have h2 : (z_w N ad (va_up w k e)).length = N := by simp [z_w]
    rw [List.getElem?_eq_none (by rw [List.length_set, h1]; omega), List.getElem?_eq_none (by rw [h2]; omega)]
def z_ia (X : z_X) (n : Nat) (f : Nat → Int32) : va_E := .inl (z_cA X 0, n, .inl f)
def z_col (X : z_X) (k : Nat) (f : Nat → Int32) : va_E := .inr (0, [.ref (z_ad X (k + 1)), .ref (z_ad X (k + 2)), .int (f 2), .int (f 3)])
def z_tab (X : z_X) (f : Nat → Int32) : List va_E := [
  .inr (9, [.ref (z_ad X 40), .int (f 1), .ref (z_ad X 41), .ref (z_ad X 43), .ref (z_ad X 0), .ref (z_ad X 3), .ref (z_ad X 51), .ref (z_ad X 57), .ref (z_ad X 61), .ref (z_ad X 63), .ref (z_ad X 65), .ref (z_ad X 67)]),
  .inl (z_cA X 1, 200, .inl f),
  .inr (5, [.ref (z_ad X 47), .ref (z_ad X 6), .ref (z_ad X 54), .ref (z_ad X 42)]),
  z_ia X 6 f,
  .inr (3, [.int (f 0), .int (f 1), .int (f 2), .ref (z_ad X 44), .ref (z_ad X 45), .ref (z_ad X 46)]),
  z_ia X 4 f, z_ia X 6 f, z_ia X 6 f,
  .inr (3, [.int (f 0), .int (f 1), .int (f 2), .ref (z_ad X 48), .ref (z_ad X 49), .ref (z_ad X 50)]),
  z_ia X 4 f, z_ia X 6 f, z_ia X 6 f,
  .inr (6, [.ref (z_ad X 52), .ref (z_ad X 53), .int (f 2)]),
  z_ia X 6 f, z_ia X 6 f,
  .inr (6, [.ref (z_ad X 55), .ref (z_ad X 56), .int (f 2)]),
  z_ia X 6 f, z_ia X 6 f,
  .inr (7, [.ref (z_ad X 58), .ref (z_ad X 59), .ref (z_ad X 60), .int (f 3)]),
  z_ia X 6 f, z_ia X 6 f, z_ia X 6 f,
  .inr (4, [.ref (z_ad X 62), .int (f 1)]),
  .inl (z_cA X 3, 8, .inr (.inr (.inr (.inr (fun j => some (z_ad X (3 * ((f j).toNatClampNeg % 13)))))))),
  .inr (4, [.ref (z_ad X 64), .int (f 1)]),
  .inl (z_cA X 3, 2, .inr (.inr (.inr (.inr (fun j => some (z_ad X (3 * ((f j).toNatClampNeg % 13)))))))),
  .inr (2, [.ref (z_ad X 66), .int (f 1), .int (f 2), .int (f 3)]),
  z_ia X 3 f,
  .inr (1, [.ref (z_ad X 68), .int (f 1), .ref (z_ad X 69)]),
  z_ia X 6 f, z_ia X 6 f,
  .inl (z_cA X 1, 92, .inl f)]
def z_eC (X : z_X) (k : Nat) (f : Nat → Int32) : va_E := if k < 39 then (if k % 3 = 0 then z_col X k f else z_ia X 6 f) else (z_tab X f).getD (k - 39) (z_ia X 0 f)
def z_eM (X : z_X) (k : Nat) (f : Nat → Int32) : va_E := ([
  .inr (10, [.ref (z_ad X 72), .ref (z_ad X 73), .int (f 2), .int (f 3), .int (f 4), .ref (z_ad X 74), .int (f 6), .int (f 7), .int (f 8), .int (f 9), .ref (z_ad X 75), .ref (z_ad X 76), .ref (z_ad X 77), .int (f 13), .int (f 14), .int (f 15), .int (f 16), .ref (z_ad X 78), .ref (z_ad X 79)]),
  z_ia X 120 f, z_ia X 312 f, .inl (z_cA X 2, 200, .inl f), z_ia X 6 f, z_ia X 6 f, z_ia X 6 f, z_ia X 6 f, z_ia X 6 f] : List va_E).getD k (z_ia X 0 f)
def z_wf (X : z_X) (gC gM : z_G) : Nat → va_E := fun k => if k < 71 then z_eC X k (gC k) else z_eM X (k - 71) (gM (k - 71))
/-- one slot of one cell is written -/
def z_up (g : z_G) (k j : Nat) (v : Int32) : z_G := va_up g k (upd (g k) j v)
theorem z_wf_C {X : z_X} {gC gM : z_G} {k : Nat} (hk : k < 71) : z_wf X gC gM k = z_eC X k (gC k) := by simp [z_wf, hk]
theorem z_wf_M {X : z_X} {gC gM : z_G} (k : Nat) : z_wf X gC gM (71 + k) = z_eM X k (gM k) := by
  have h : ¬ 71 + k < 71 := by omega
  simp [z_wf, h]
theorem z_wf_upC {X : z_X} {gC gM : z_G} {k : Nat} {f : Nat → Int32} (hk : k < 71) : va_up (z_wf X gC gM) k (z_eC X k f) = z_wf X (va_up gC k f) gM := by
  funext i
  by_cases h : i = k
  · subst h; simp [va_up, z_wf, hk]
  · simp [va_up, z_wf, h]
theorem z_wf_upM {X : z_X} {gC gM : z_G} {k : Nat} {f : Nat → Int32} : va_up (z_wf X gC gM) (71 + k) (z_eM X k f) = z_wf X gC (va_up gM k f) := by
  funext i
  by_cases h : i = 71 + k
  · have h2 : ¬ 71 + k < 71 := by omega
    subst h; simp [va_up, z_wf, h2]
  · by_cases h2 : i < 71
    · simp [va_up, z_wf, h, h2]
    · have h3 : i - 71 ≠ k := by omega
      simp [va_up, z_wf, h, h2, h3]
/-! ===== what is known of a state ===== -/
def lw_good : List Cond := lw_tbl.filter goodWord
theorem z_good {w : Cond} (h : w ∈ lw_good) : (w.onTables && w.keeps) = true ∨ ∃ ty, w = .arrayClass ty := good_of_word (List.mem_filter.mp h).2
theorem z_in {w : Cond} {l : List Cond} {i : Nat} (h : l[i]? = some w) (hl : ∀ x ∈ l, x ∈ lw_tbl) (hg : goodWord w = true) : w ∈ lw_good := List.mem_filter.mpr ⟨hl _ (List.mem_of_getElem? h), hg⟩
theorem z_tbl1 : ∀ x ∈ tables_1, x ∈ lw_tbl := fun _ h => List.mem_append_right _ h
theorem z_tblS : ∀ x ∈ k2_sels lw_privs, x ∈ lw_tbl := fun _ h => List.mem_append_left _ h
def z_cs (j : Nat) : Int32 := ([0, 1, 1, 1, 0, -1, -1, -1] : List Int32).getD j 0
def z_rs (j : Nat) : Int32 := ([-1, -1, 0, 1, 1, 1, 0, -1] : List Int32).getD j 0
def z_CX (X : z_X) (U : State) (H : Heap) : Prop := va_K (z_D X) classes (z_tys X) U ∧ (∀ w ∈ z_nest, va_Nw w U) ∧ (va_Z "BootsTurnHome$Ways" "COLUMN_STEP" "[I" (.ref (z_t0 X)) (z_A X) U H ∧ va_T .int (z_t0 X) 8 (fun j => .int (z_cs j)) (z_A X) U H) ∧ (va_Z "BootsTurnHome$Ways" "ROW_STEP" "[I" (.ref (z_t1 X)) (z_A X) U H ∧ va_T .int (z_t1 X) 8 (fun j => .int (z_rs j)) (z_A X) U H) ∧ ∀ w, va_D (z_A X) (z_w (z_N X) (z_ad X) w)
theorem z_nest_warm {w : Cond} (h : w ∈ z_nest) {s U : State} (hW : s.WarmedH U.vm) (hZ : va_Nw w s) : va_Nw w U := by
  have key : ∀ w ∈ z_nest, ∃ a i x h, w = Cond.methodLinkNest a i x h := by
    intro w hw
    simp only [z_nest, List.mem_cons, List.not_mem_nil, or_false] at hw
    rcases hw with rfl | rfl | rfl | rfl | rfl | rfl | rfl | rfl | rfl | rfl | rfl | rfl | rfl | rfl | rfl | rfl | rfl <;> exact ⟨_, _, _, _, rfl⟩
  obtain ⟨a, i, x, h1, rfl⟩ := key w h
  exact va_Nw.warmM hW hZ
theorem z_CX.go {X : z_X} {s U : State} {H : Heap} {locs : List Loc} (h : z_CX X s s.heap) (hS : va_S (z_A X) s.heap H locs) (hW : s.WarmedH U.vm) : z_CX X U H := by
  obtain ⟨h1, h2, ⟨h3, h4⟩, ⟨h5, h6⟩, h7⟩ := h
  refine ⟨va_K.moved hW.alike h1, fun w hw => z_nest_warm hw hW (h2 w hw), ⟨?_, ?_⟩, ⟨?_, ?_⟩, h7⟩
  · exact va_Z.moved hW.alike (h3.kept hS.2.1)
  · exact va_T.moved hW.alike (h4.kept hS.2.1)
  · exact va_Z.moved hW.alike (h5.kept hS.2.1)
  · exact va_T.moved hW.alike (h6.kept hS.2.1)
abbrev z_P (X : z_X) (gC gM : z_G) (H : Heap) : Prop := va_P (z_D X) classes (z_w (z_N X) (z_ad X) (z_wf X gC gM)) H
def z_WP (X : z_X) (nn : Nat) (gC gM : z_G) (U : State) : Prop := z_CX X U U.heap ∧ nn ≤ z_N X ∧ z_P X gC gM U.heap
/-! ===== the judgement: from a frame at pc, whatever the heap that holds the world ===== -/
abbrev z_ET : Type := Program × Launch × Env × Room × State × MethodId × Array Value × List Frame × Method × Code × Nat × Nat × (State → Prop)
def z_EV (X : z_X) (E : z_ET) (cc : ByteArray) (nL : Nat) (own : String) (fr lo nn : Nat) : Prop := match E with
  | (p, _, _, R, s, m, args, _, _, c, cells, slots, _) => p.tables.exec = Jvm.exec ∧ c.code = cc ∧ c.maxLocals = nL ∧ s.vm.findClass own = some m.cls ∧ (∀ w ∈ lw_good, w.before args s = true) ∧ z_CX X s s.heap ∧ nn ≤ z_N X ∧ (fr ≤ R.frames ∧ lo ≤ R.locals) ∧ cells ≤ R.cells ∧ slots ≤ R.slots
def z_V (X : z_X) (E : z_ET) (nL : Nat) (gC gM : z_G) (pc : Nat) (lv : List (Nat × Value)) (st : List Value) : Prop := match E with
  | (p, l, e, R, s, m, args, below, meth, c, cells, slots, Q) => ∀ (H : Heap) (locs : List Loc) (ls : Array Slot), lv_has ls nL lv → z_P X gC gM H → va_S (z_A X) s.heap H locs → W p l e R s m args below meth c H locs cells slots Q (F0 m pc ls st)
/-- a method's contract: from the world g to the world g', with the answer v -/
def z_MI (X : z_X) (l : Launch) (nn : Nat) (y : MethodName) (cc : ByteArray) (nL : Nat) (ret : Option FieldType) (fr lo : Nat) (av : List Value) (gC gM gC' gM' : z_G) (v : Int32) : Prop :=
  Met l y (Cond.code y cc nL ret :: lw_good) ({ frames := fr, cells := 0, slots := 0, locals := lo }) (va_Pc av (fun U => z_WP X nn gC gM U)) (va_Qi (fun (r : Int32) (_ : Unit) => r = v) (fun _ t => z_WP X nn gC' gM' t) (z_A X)) 0 0 (z_A X)
def z_MV (X : z_X) (l : Launch) (nn : Nat) (y : MethodName) (cc : ByteArray) (nL : Nat) (ret : Option FieldType) (fr lo : Nat) (av : List Value) (gC gM gC' gM' : z_G) : Prop :=
  Met l y (Cond.code y cc nL ret :: lw_good) ({ frames := fr, cells := 0, slots := 0, locals := lo }) (va_Pc av (fun U => z_WP X nn gC gM U)) (va_Qv (fun (_ : Unit) => True) (fun _ t => z_WP X nn gC' gM' t) (z_A X)) 0 0 (z_A X)
/-- the pure functions' words: a check, a name -/
def z_ck {α : Type} (b : Bool) (x : Option α) : Option α := if b then x else none
def z_let {α β : Type} (a : α) (f : α → β) : β := f a
def z_inb (i : Int32) (n : Nat) : Bool := decide (0 ≤ i.toInt) && decide (i.toInt < (n : Int))
def z_rem (x y : Int32) : Int32 := x - x / y * y
def z_remL (x y : Int64) : Int64 := x - x / y * y
def z_rd (g : z_G) (k : Nat) (i : Int32) : Int32 := g k i.toNatClampNeg
def z_wr (g : z_G) (k : Nat) (i v : Int32) : z_G := z_up g k i.toNatClampNeg v
def z_cp (g : z_G) (k0 k1 : Nat) (sp dp n : Int32) : z_G := va_up g k1 (va_cpy (g k0) (g k1) sp.toNatClampNeg dp.toNatClampNeg n.toNatClampNeg)
def z_max (x y : Int32) : Int32 := if x < y then y else x
def z_min (x y : Int32) : Int32 := if y < x then y else x
def z_abs (x : Int32) : Int32 := if 0 ≤ x then x else 0 - x
def z_bit (x : Int32) : Bool := decide (x = 0) || decide (x = 1)
theorem z_ck_some {α : Type} {b : Bool} {x : Option α} {r : α} (h : z_ck b x = some r) : b = true ∧ x = some r := by
  cases b
  · cases h
  · exact ⟨rfl, h⟩
theorem z_let_eq {α β : Type} {a : α} {f : α → β} {r : β} (h : z_let a f = r) : ∃ x, x = a ∧ f x = r := ⟨a, rfl, h⟩
theorem z_bind_some {α β : Type} {x : Option α} {f : α → Option β} {r : β} (h : x.bind f = some r) : ∃ a, x = some a ∧ f a = some r := Option.bind_eq_some_iff.mp h
theorem z_inb_in {i : Int32} {n : Nat} (h : z_inb i n = true) : vp_in i n := by
  simp only [z_inb, Bool.and_eq_true, decide_eq_true_eq] at h
  exact vp_in_iff.mpr h
theorem z_bit_nar {x : Int32} (h : z_bit x = true) : narrow .boolean (.int x) = .int x ∧ fits .boolean (.int x) = true := by
  simp only [z_bit, Bool.or_eq_true, decide_eq_true_eq] at h
  rcases h with rfl | rfl <;> exact ⟨by decide +kernel, by decide +kernel⟩
theorem z_t {α : Sort _} {c : Prop} {i : Decidable c} {a b r : α} (hc : c) (h : (@ite α c i a b) = r) : a = r := (if_pos hc).symm.trans h
theorem z_f {α : Sort _} {c : Prop} {i : Decidable c} {a b r : α} (hc : ¬ c) (h : (@ite α c i a b) = r) : b = r := (if_neg hc).symm.trans h
theorem z_none {α : Type} {r : α} {P : Prop} (h : (none : Option α) = some r) : P := by cases h
theorem z_ne {x k : Int32} (h : ¬ x = k) : x.toInt ≠ k.toInt := fun e => h (Int32.toInt_inj.mp e)
def z_F : Nat := 20000
theorem z_b0 : z_bit 0 = true := by decide
theorem z_b1 : z_bit 1 = true := by decide
theorem z_tb_1 : ∀ x ∈ tables_1_1, x ∈ lw_tbl := fun x h => z_tbl1 x (List.mem_append_left _ h)
theorem z_tb_2 : ∀ x ∈ tables_1_2, x ∈ lw_tbl := fun x h => z_tbl1 x (List.mem_append_right _ (List.mem_append_left _ h))
theorem z_tb_3 : ∀ x ∈ tables_1_3, x ∈ lw_tbl := fun x h => z_tbl1 x (List.mem_append_right _ (List.mem_append_right _ (List.mem_append_left _ h)))
theorem z_tb_4 : ∀ x ∈ tables_1_4, x ∈ lw_tbl := fun x h => z_tbl1 x (List.mem_append_right _ (List.mem_append_right _ (List.mem_append_right _ (List.mem_append_left _ h))))
theorem z_tb_5 : ∀ x ∈ tables_1_5, x ∈ lw_tbl := fun x h => z_tbl1 x (List.mem_append_right _ (List.mem_append_right _ (List.mem_append_right _ (List.mem_append_right _ h))))

