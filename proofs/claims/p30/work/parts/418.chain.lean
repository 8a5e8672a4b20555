/-! ===== the reference's chain of numbers ===== -/
def m_ch (T : Nat) (tx : Nat → Nat) : List (Int32 × Int32) → Option Nat → Option (List Nat × Nat)
  | [], none => none
  | [], some e => some ([], e)
  | r :: rs, s => match m_mr T tx r.1 r.2 s with
    | none => none
    | some (v, e) => match m_ch T tx rs (some e) with
      | none => none
      | some (vs, e2) => some (v :: vs, e2)
def m_ok2 : List (Int32 × Int32) → List Nat → Prop
  | [], [] => True
  | r :: rs, v :: vs => s_Top_isWithin (nI v) r.1 r.2 ≠ 0 ∧ m_ok2 rs vs
  | [], _ :: _ => False
  | _ :: _, [] => False
theorem m_chain {T : Nat} {tx : Nat → Nat} : ∀ (rs : List (Int32 × Int32)) (e : Nat) (vs : List Nat) (q : Nat), ((e < T ∧ tx e = (if rs.length = 0 then 59 else 44)) ∧ m_seq T tx rs.length (e + 1) = some (vs, q) ∧ m_ok2 rs vs) ↔ ∃ e2, m_ch T tx rs (some e) = some (vs, e2) ∧ e2 < T ∧ tx e2 = 59 ∧ q = e2 + 1 := by
  intro rs
  induction rs with
  | nil =>
    intro e vs q
    constructor
    · rintro ⟨⟨a, b⟩, c, d⟩
      have c2 : some (([] : List Nat), e + 1) = some (vs, q) := c
      have c3 := Option.some.inj c2
      have c4 := congrArg Prod.fst c3
      have c5 := congrArg Prod.snd c3
      simp only at c4 c5
      subst c4 c5
      exact ⟨e, rfl, a, b, rfl⟩
    · rintro ⟨e2, a, b, c, d⟩
      have a2 : some (([] : List Nat), e) = some (vs, e2) := a
      have c3 := Option.some.inj a2
      have c4 := congrArg Prod.fst c3
      have c5 := congrArg Prod.snd c3
      simp only at c4 c5
      subst c4 c5 d
      exact ⟨⟨b, c⟩, rfl, trivial⟩
  | cons r rs ih =>
    intro e vs q
    have hm : m_mr T tx r.1 r.2 (some e) = if e < T ∧ tx e = 44 then m_nr T tx r.1 r.2 (e + 1) else none := rfl
    have hl : (r :: rs).length = rs.length + 1 := rfl
    constructor
    · rintro ⟨⟨a, b⟩, c, d⟩
      rw [hl] at b c
      rw [if_neg (by omega)] at b
      rw [m_seq] at c
      cases hn : m_n T tx (e + 1) with
      | none => rw [hn] at c; exact absurd c (by simp)
      | some ve =>
        obtain ⟨v, e1⟩ := ve
        rw [hn] at c
        simp only at c
        by_cases h1 : e1 < T ∧ tx e1 = (if rs.length = 0 then 59 else 44)
        · rw [if_pos h1] at c
          cases hs : m_seq T tx rs.length (e1 + 1) with
          | none => rw [hs] at c; exact absurd c (by simp)
          | some wq =>
            obtain ⟨ws, q2⟩ := wq
            rw [hs] at c
            simp only at c
            have c3 := Option.some.inj c
            have c4 := congrArg Prod.fst c3
            have c5 := congrArg Prod.snd c3
            simp only at c4 c5
            subst c4 c5
            obtain ⟨e2, i1, i2, i3, i4⟩ := (ih e1 ws q2).mp ⟨h1, hs, d.2⟩
            refine ⟨e2, ?_, i2, i3, i4⟩
            rw [m_ch, hm, if_pos ⟨a, b⟩]
            have hr : m_nr T tx r.1 r.2 (e + 1) = some (v, e1) := by
              unfold m_nr
              rw [hn]
              exact if_neg d.1
            rw [hr]
            simp only
            rw [i1]
        · rw [if_neg h1] at c; exact absurd c (by simp)
    · rintro ⟨e2, a, b, c, d⟩
      rw [m_ch, hm] at a
      by_cases h1 : e < T ∧ tx e = 44
      · rw [if_pos h1] at a
        cases hr : m_nr T tx r.1 r.2 (e + 1) with
        | none => rw [hr] at a; exact absurd a (by simp)
        | some ve =>
          obtain ⟨v, e1⟩ := ve
          have hn := m_nr_n hr
          rw [hr] at a
          simp only at a
          cases hs : m_ch T tx rs (some e1) with
          | none => rw [hs] at a; exact absurd a (by simp)
          | some wq =>
            obtain ⟨ws, q2⟩ := wq
            rw [hs] at a
            simp only at a
            have c3 := Option.some.inj a
            have c4 := congrArg Prod.fst c3
            have c5 := congrArg Prod.snd c3
            simp only at c4 c5
            subst c4 c5
            obtain ⟨i1, i2, i3⟩ := (ih e1 ws q).mpr ⟨q2, hs, b, c, d⟩
            refine ⟨⟨h1.1, ?_⟩, ?_, hn.2, i3⟩
            · rw [hl, if_neg (by omega)]; exact h1.2
            · rw [hl, m_seq, hn.1]
              simp only
              rw [if_pos i1, i2]
      · rw [if_neg h1] at a; exact absurd a (by simp)
/-- an item's numbers as the reference takes them: the first, then the others -/
def m_al3 (T : Nat) (tx : Nat → Nat) (r : Int32 × Int32) (rs : List (Int32 × Int32)) (p : Nat) : Option (List Nat × Nat) := match m_nr T tx r.1 r.2 p with
  | none => none
  | some (v, e) => match m_ch T tx rs (some e) with
    | none => none
    | some (vs, e2) => some (v :: vs, e2)
theorem m_all {T : Nat} {tx : Nat → Nat} (r : Int32 × Int32) (rs : List (Int32 × Int32)) (p : Nat) (vs : List Nat) (q : Nat) : (m_seq T tx (rs.length + 1) p = some (vs, q) ∧ m_ok2 (r :: rs) vs) ↔ ∃ e2, m_al3 T tx r rs p = some (vs, e2) ∧ e2 < T ∧ tx e2 = 59 ∧ q = e2 + 1 := by
  constructor
  · rintro ⟨c, d⟩
    rw [m_seq] at c
    cases hn : m_n T tx p with
    | none => rw [hn] at c; exact absurd c (by simp)
    | some ve =>
      obtain ⟨v, e1⟩ := ve
      rw [hn] at c
      simp only at c
      by_cases h1 : e1 < T ∧ tx e1 = (if rs.length = 0 then 59 else 44)
      · rw [if_pos h1] at c
        cases hs : m_seq T tx rs.length (e1 + 1) with
        | none => rw [hs] at c; exact absurd c (by simp)
        | some wq =>
          obtain ⟨ws, q2⟩ := wq
          rw [hs] at c
          simp only at c
          have c3 := Option.some.inj c
          have c4 := congrArg Prod.fst c3
          have c5 := congrArg Prod.snd c3
          simp only at c4 c5
          subst c4 c5
          obtain ⟨e2, i1, i2, i3, i4⟩ := (m_chain rs e1 ws q2).mp ⟨h1, hs, d.2⟩
          refine ⟨e2, ?_, i2, i3, i4⟩
          have hr : m_nr T tx r.1 r.2 p = some (v, e1) := by
            unfold m_nr
            rw [hn]
            exact if_neg d.1
          unfold m_al3
          rw [hr]
          simp only
          rw [i1]
      · rw [if_neg h1] at c; exact absurd c (by simp)
  · rintro ⟨e2, a, b, c, d⟩
    unfold m_al3 at a
    cases hr : m_nr T tx r.1 r.2 p with
    | none => rw [hr] at a; exact absurd a (by simp)
    | some ve =>
      obtain ⟨v, e1⟩ := ve
      have hn := m_nr_n hr
      rw [hr] at a
      simp only at a
      cases hs : m_ch T tx rs (some e1) with
      | none => rw [hs] at a; exact absurd a (by simp)
      | some wq =>
        obtain ⟨ws, q2⟩ := wq
        rw [hs] at a
        simp only at a
        have c3 := Option.some.inj a
        have c4 := congrArg Prod.fst c3
        have c5 := congrArg Prod.snd c3
        simp only at c4 c5
        subst c4 c5
        obtain ⟨i1, i2, i3⟩ := (m_chain rs e1 ws q).mpr ⟨q2, hs, b, c, d⟩
        refine ⟨?_, hn.2, i3⟩
        rw [m_seq, hn.1]
        simp only
        rw [if_pos i1, i2]
