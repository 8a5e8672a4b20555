theorem e_0 {X : z_X} {gC gM : z_G} : z_wf X gC gM 0 = .inr (0, [.ref (z_ad X 1), .ref (z_ad X 2), .int (gC 0 2), .int (gC 0 3)]) := rfl
theorem u_0_2 {X : z_X} {gC gM g2 : z_G} {v : Int32} (h : g2 = z_up gC 0 2 v) : va_up (z_wf X gC gM) 0 (.inr (0, [.ref (z_ad X 1), .ref (z_ad X 2), .int v, .int (gC 0 3)])) = z_wf X g2 gM := by
  subst h
  exact z_wf_upC (k := 0) (f := upd (gC 0) 2 v) (by decide)
theorem u_0_3 {X : z_X} {gC gM g2 : z_G} {v : Int32} (h : g2 = z_up gC 0 3 v) : va_up (z_wf X gC gM) 0 (.inr (0, [.ref (z_ad X 1), .ref (z_ad X 2), .int (gC 0 2), .int v])) = z_wf X g2 gM := by
  subst h
  exact z_wf_upC (k := 0) (f := upd (gC 0) 3 v) (by decide)
theorem e_1 {X : z_X} {gC gM : z_G} : z_wf X gC gM 1 = .inl (z_cA X 0, 6, .inl (gC 1)) := rfl
theorem ua_1 {X : z_X} {gC gM g2 : z_G} {i v : Int32} (h : g2 = z_wr gC 1 i v) : va_up (z_wf X gC gM) 1 (.inl (z_cA X 0, 6, .inl (upd (gC 1) i.toNatClampNeg v))) = z_wf X g2 gM := by
  subst h
  exact z_wf_upC (k := 1) (f := upd (gC 1) i.toNatClampNeg v) (by decide)
theorem uc_1 {X : z_X} {gC gM g2 : z_G} {k0 : Nat} {sp dp n : Int32} (h : g2 = z_cp gC k0 1 sp dp n) : va_up (z_wf X gC gM) 1 (.inl (z_cA X 0, 6, .inl (va_cpy (gC k0) (gC 1) sp.toNatClampNeg dp.toNatClampNeg n.toNatClampNeg))) = z_wf X g2 gM := by
  subst h
  exact z_wf_upC (k := 1) (by decide)
theorem e_2 {X : z_X} {gC gM : z_G} : z_wf X gC gM 2 = .inl (z_cA X 0, 6, .inl (gC 2)) := rfl
theorem ua_2 {X : z_X} {gC gM g2 : z_G} {i v : Int32} (h : g2 = z_wr gC 2 i v) : va_up (z_wf X gC gM) 2 (.inl (z_cA X 0, 6, .inl (upd (gC 2) i.toNatClampNeg v))) = z_wf X g2 gM := by
  subst h
  exact z_wf_upC (k := 2) (f := upd (gC 2) i.toNatClampNeg v) (by decide)
theorem uc_2 {X : z_X} {gC gM g2 : z_G} {k0 : Nat} {sp dp n : Int32} (h : g2 = z_cp gC k0 2 sp dp n) : va_up (z_wf X gC gM) 2 (.inl (z_cA X 0, 6, .inl (va_cpy (gC k0) (gC 2) sp.toNatClampNeg dp.toNatClampNeg n.toNatClampNeg))) = z_wf X g2 gM := by
  subst h
  exact z_wf_upC (k := 2) (by decide)
theorem e_3 {X : z_X} {gC gM : z_G} : z_wf X gC gM 3 = .inr (0, [.ref (z_ad X 4), .ref (z_ad X 5), .int (gC 3 2), .int (gC 3 3)]) := rfl
theorem u_3_2 {X : z_X} {gC gM g2 : z_G} {v : Int32} (h : g2 = z_up gC 3 2 v) : va_up (z_wf X gC gM) 3 (.inr (0, [.ref (z_ad X 4), .ref (z_ad X 5), .int v, .int (gC 3 3)])) = z_wf X g2 gM := by
  subst h
  exact z_wf_upC (k := 3) (f := upd (gC 3) 2 v) (by decide)
theorem u_3_3 {X : z_X} {gC gM g2 : z_G} {v : Int32} (h : g2 = z_up gC 3 3 v) : va_up (z_wf X gC gM) 3 (.inr (0, [.ref (z_ad X 4), .ref (z_ad X 5), .int (gC 3 2), .int v])) = z_wf X g2 gM := by
  subst h
  exact z_wf_upC (k := 3) (f := upd (gC 3) 3 v) (by decide)
theorem e_4 {X : z_X} {gC gM : z_G} : z_wf X gC gM 4 = .inl (z_cA X 0, 6, .inl (gC 4)) := rfl
theorem ua_4 {X : z_X} {gC gM g2 : z_G} {i v : Int32} (h : g2 = z_wr gC 4 i v) : va_up (z_wf X gC gM) 4 (.inl (z_cA X 0, 6, .inl (upd (gC 4) i.toNatClampNeg v))) = z_wf X g2 gM := by
  subst h
  exact z_wf_upC (k := 4) (f := upd (gC 4) i.toNatClampNeg v) (by decide)
theorem uc_4 {X : z_X} {gC gM g2 : z_G} {k0 : Nat} {sp dp n : Int32} (h : g2 = z_cp gC k0 4 sp dp n) : va_up (z_wf X gC gM) 4 (.inl (z_cA X 0, 6, .inl (va_cpy (gC k0) (gC 4) sp.toNatClampNeg dp.toNatClampNeg n.toNatClampNeg))) = z_wf X g2 gM := by
  subst h
  exact z_wf_upC (k := 4) (by decide)
theorem e_5 {X : z_X} {gC gM : z_G} : z_wf X gC gM 5 = .inl (z_cA X 0, 6, .inl (gC 5)) := rfl
theorem ua_5 {X : z_X} {gC gM g2 : z_G} {i v : Int32} (h : g2 = z_wr gC 5 i v) : va_up (z_wf X gC gM) 5 (.inl (z_cA X 0, 6, .inl (upd (gC 5) i.toNatClampNeg v))) = z_wf X g2 gM := by
  subst h
  exact z_wf_upC (k := 5) (f := upd (gC 5) i.toNatClampNeg v) (by decide)
theorem uc_5 {X : z_X} {gC gM g2 : z_G} {k0 : Nat} {sp dp n : Int32} (h : g2 = z_cp gC k0 5 sp dp n) : va_up (z_wf X gC gM) 5 (.inl (z_cA X 0, 6, .inl (va_cpy (gC k0) (gC 5) sp.toNatClampNeg dp.toNatClampNeg n.toNatClampNeg))) = z_wf X g2 gM := by
  subst h
  exact z_wf_upC (k := 5) (by decide)
theorem e_6 {X : z_X} {gC gM : z_G} : z_wf X gC gM 6 = .inr (0, [.ref (z_ad X 7), .ref (z_ad X 8), .int (gC 6 2), .int (gC 6 3)]) := rfl
theorem u_6_2 {X : z_X} {gC gM g2 : z_G} {v : Int32} (h : g2 = z_up gC 6 2 v) : va_up (z_wf X gC gM) 6 (.inr (0, [.ref (z_ad X 7), .ref (z_ad X 8), .int v, .int (gC 6 3)])) = z_wf X g2 gM := by
  subst h
  exact z_wf_upC (k := 6) (f := upd (gC 6) 2 v) (by decide)
theorem u_6_3 {X : z_X} {gC gM g2 : z_G} {v : Int32} (h : g2 = z_up gC 6 3 v) : va_up (z_wf X gC gM) 6 (.inr (0, [.ref (z_ad X 7), .ref (z_ad X 8), .int (gC 6 2), .int v])) = z_wf X g2 gM := by
  subst h
  exact z_wf_upC (k := 6) (f := upd (gC 6) 3 v) (by decide)
theorem e_7 {X : z_X} {gC gM : z_G} : z_wf X gC gM 7 = .inl (z_cA X 0, 6, .inl (gC 7)) := rfl
theorem ua_7 {X : z_X} {gC gM g2 : z_G} {i v : Int32} (h : g2 = z_wr gC 7 i v) : va_up (z_wf X gC gM) 7 (.inl (z_cA X 0, 6, .inl (upd (gC 7) i.toNatClampNeg v))) = z_wf X g2 gM := by
  subst h
  exact z_wf_upC (k := 7) (f := upd (gC 7) i.toNatClampNeg v) (by decide)
theorem uc_7 {X : z_X} {gC gM g2 : z_G} {k0 : Nat} {sp dp n : Int32} (h : g2 = z_cp gC k0 7 sp dp n) : va_up (z_wf X gC gM) 7 (.inl (z_cA X 0, 6, .inl (va_cpy (gC k0) (gC 7) sp.toNatClampNeg dp.toNatClampNeg n.toNatClampNeg))) = z_wf X g2 gM := by
  subst h
  exact z_wf_upC (k := 7) (by decide)
theorem e_8 {X : z_X} {gC gM : z_G} : z_wf X gC gM 8 = .inl (z_cA X 0, 6, .inl (gC 8)) := rfl
theorem ua_8 {X : z_X} {gC gM g2 : z_G} {i v : Int32} (h : g2 = z_wr gC 8 i v) : va_up (z_wf X gC gM) 8 (.inl (z_cA X 0, 6, .inl (upd (gC 8) i.toNatClampNeg v))) = z_wf X g2 gM := by
  subst h
  exact z_wf_upC (k := 8) (f := upd (gC 8) i.toNatClampNeg v) (by decide)
theorem uc_8 {X : z_X} {gC gM g2 : z_G} {k0 : Nat} {sp dp n : Int32} (h : g2 = z_cp gC k0 8 sp dp n) : va_up (z_wf X gC gM) 8 (.inl (z_cA X 0, 6, .inl (va_cpy (gC k0) (gC 8) sp.toNatClampNeg dp.toNatClampNeg n.toNatClampNeg))) = z_wf X g2 gM := by
  subst h
  exact z_wf_upC (k := 8) (by decide)
theorem e_9 {X : z_X} {gC gM : z_G} : z_wf X gC gM 9 = .inr (0, [.ref (z_ad X 10), .ref (z_ad X 11), .int (gC 9 2), .int (gC 9 3)]) := rfl
theorem u_9_2 {X : z_X} {gC gM g2 : z_G} {v : Int32} (h : g2 = z_up gC 9 2 v) : va_up (z_wf X gC gM) 9 (.inr (0, [.ref (z_ad X 10), .ref (z_ad X 11), .int v, .int (gC 9 3)])) = z_wf X g2 gM := by
  subst h
  exact z_wf_upC (k := 9) (f := upd (gC 9) 2 v) (by decide)
theorem u_9_3 {X : z_X} {gC gM g2 : z_G} {v : Int32} (h : g2 = z_up gC 9 3 v) : va_up (z_wf X gC gM) 9 (.inr (0, [.ref (z_ad X 10), .ref (z_ad X 11), .int (gC 9 2), .int v])) = z_wf X g2 gM := by
  subst h
  exact z_wf_upC (k := 9) (f := upd (gC 9) 3 v) (by decide)
theorem e_10 {X : z_X} {gC gM : z_G} : z_wf X gC gM 10 = .inl (z_cA X 0, 6, .inl (gC 10)) := rfl
theorem ua_10 {X : z_X} {gC gM g2 : z_G} {i v : Int32} (h : g2 = z_wr gC 10 i v) : va_up (z_wf X gC gM) 10 (.inl (z_cA X 0, 6, .inl (upd (gC 10) i.toNatClampNeg v))) = z_wf X g2 gM := by
  subst h
  exact z_wf_upC (k := 10) (f := upd (gC 10) i.toNatClampNeg v) (by decide)
theorem uc_10 {X : z_X} {gC gM g2 : z_G} {k0 : Nat} {sp dp n : Int32} (h : g2 = z_cp gC k0 10 sp dp n) : va_up (z_wf X gC gM) 10 (.inl (z_cA X 0, 6, .inl (va_cpy (gC k0) (gC 10) sp.toNatClampNeg dp.toNatClampNeg n.toNatClampNeg))) = z_wf X g2 gM := by
  subst h
  exact z_wf_upC (k := 10) (by decide)
theorem e_11 {X : z_X} {gC gM : z_G} : z_wf X gC gM 11 = .inl (z_cA X 0, 6, .inl (gC 11)) := rfl
theorem ua_11 {X : z_X} {gC gM g2 : z_G} {i v : Int32} (h : g2 = z_wr gC 11 i v) : va_up (z_wf X gC gM) 11 (.inl (z_cA X 0, 6, .inl (upd (gC 11) i.toNatClampNeg v))) = z_wf X g2 gM := by
  subst h
  exact z_wf_upC (k := 11) (f := upd (gC 11) i.toNatClampNeg v) (by decide)
theorem uc_11 {X : z_X} {gC gM g2 : z_G} {k0 : Nat} {sp dp n : Int32} (h : g2 = z_cp gC k0 11 sp dp n) : va_up (z_wf X gC gM) 11 (.inl (z_cA X 0, 6, .inl (va_cpy (gC k0) (gC 11) sp.toNatClampNeg dp.toNatClampNeg n.toNatClampNeg))) = z_wf X g2 gM := by
  subst h
  exact z_wf_upC (k := 11) (by decide)
theorem e_12 {X : z_X} {gC gM : z_G} : z_wf X gC gM 12 = .inr (0, [.ref (z_ad X 13), .ref (z_ad X 14), .int (gC 12 2), .int (gC 12 3)]) := rfl
theorem u_12_2 {X : z_X} {gC gM g2 : z_G} {v : Int32} (h : g2 = z_up gC 12 2 v) : va_up (z_wf X gC gM) 12 (.inr (0, [.ref (z_ad X 13), .ref (z_ad X 14), .int v, .int (gC 12 3)])) = z_wf X g2 gM := by
  subst h
  exact z_wf_upC (k := 12) (f := upd (gC 12) 2 v) (by decide)
theorem u_12_3 {X : z_X} {gC gM g2 : z_G} {v : Int32} (h : g2 = z_up gC 12 3 v) : va_up (z_wf X gC gM) 12 (.inr (0, [.ref (z_ad X 13), .ref (z_ad X 14), .int (gC 12 2), .int v])) = z_wf X g2 gM := by
  subst h
  exact z_wf_upC (k := 12) (f := upd (gC 12) 3 v) (by decide)
theorem e_13 {X : z_X} {gC gM : z_G} : z_wf X gC gM 13 = .inl (z_cA X 0, 6, .inl (gC 13)) := rfl
theorem ua_13 {X : z_X} {gC gM g2 : z_G} {i v : Int32} (h : g2 = z_wr gC 13 i v) : va_up (z_wf X gC gM) 13 (.inl (z_cA X 0, 6, .inl (upd (gC 13) i.toNatClampNeg v))) = z_wf X g2 gM := by
  subst h
  exact z_wf_upC (k := 13) (f := upd (gC 13) i.toNatClampNeg v) (by decide)
theorem uc_13 {X : z_X} {gC gM g2 : z_G} {k0 : Nat} {sp dp n : Int32} (h : g2 = z_cp gC k0 13 sp dp n) : va_up (z_wf X gC gM) 13 (.inl (z_cA X 0, 6, .inl (va_cpy (gC k0) (gC 13) sp.toNatClampNeg dp.toNatClampNeg n.toNatClampNeg))) = z_wf X g2 gM := by
  subst h
  exact z_wf_upC (k := 13) (by decide)
theorem e_14 {X : z_X} {gC gM : z_G} : z_wf X gC gM 14 = .inl (z_cA X 0, 6, .inl (gC 14)) := rfl
theorem ua_14 {X : z_X} {gC gM g2 : z_G} {i v : Int32} (h : g2 = z_wr gC 14 i v) : va_up (z_wf X gC gM) 14 (.inl (z_cA X 0, 6, .inl (upd (gC 14) i.toNatClampNeg v))) = z_wf X g2 gM := by
  subst h
  exact z_wf_upC (k := 14) (f := upd (gC 14) i.toNatClampNeg v) (by decide)
theorem uc_14 {X : z_X} {gC gM g2 : z_G} {k0 : Nat} {sp dp n : Int32} (h : g2 = z_cp gC k0 14 sp dp n) : va_up (z_wf X gC gM) 14 (.inl (z_cA X 0, 6, .inl (va_cpy (gC k0) (gC 14) sp.toNatClampNeg dp.toNatClampNeg n.toNatClampNeg))) = z_wf X g2 gM := by
  subst h
  exact z_wf_upC (k := 14) (by decide)
theorem e_15 {X : z_X} {gC gM : z_G} : z_wf X gC gM 15 = .inr (0, [.ref (z_ad X 16), .ref (z_ad X 17), .int (gC 15 2), .int (gC 15 3)]) := rfl
theorem u_15_2 {X : z_X} {gC gM g2 : z_G} {v : Int32} (h : g2 = z_up gC 15 2 v) : va_up (z_wf X gC gM) 15 (.inr (0, [.ref (z_ad X 16), .ref (z_ad X 17), .int v, .int (gC 15 3)])) = z_wf X g2 gM := by
  subst h
  exact z_wf_upC (k := 15) (f := upd (gC 15) 2 v) (by decide)
theorem u_15_3 {X : z_X} {gC gM g2 : z_G} {v : Int32} (h : g2 = z_up gC 15 3 v) : va_up (z_wf X gC gM) 15 (.inr (0, [.ref (z_ad X 16), .ref (z_ad X 17), .int (gC 15 2), .int v])) = z_wf X g2 gM := by
  subst h
  exact z_wf_upC (k := 15) (f := upd (gC 15) 3 v) (by decide)
theorem e_16 {X : z_X} {gC gM : z_G} : z_wf X gC gM 16 = .inl (z_cA X 0, 6, .inl (gC 16)) := rfl
theorem ua_16 {X : z_X} {gC gM g2 : z_G} {i v : Int32} (h : g2 = z_wr gC 16 i v) : va_up (z_wf X gC gM) 16 (.inl (z_cA X 0, 6, .inl (upd (gC 16) i.toNatClampNeg v))) = z_wf X g2 gM := by
  subst h
  exact z_wf_upC (k := 16) (f := upd (gC 16) i.toNatClampNeg v) (by decide)
theorem uc_16 {X : z_X} {gC gM g2 : z_G} {k0 : Nat} {sp dp n : Int32} (h : g2 = z_cp gC k0 16 sp dp n) : va_up (z_wf X gC gM) 16 (.inl (z_cA X 0, 6, .inl (va_cpy (gC k0) (gC 16) sp.toNatClampNeg dp.toNatClampNeg n.toNatClampNeg))) = z_wf X g2 gM := by
  subst h
  exact z_wf_upC (k := 16) (by decide)
theorem e_17 {X : z_X} {gC gM : z_G} : z_wf X gC gM 17 = .inl (z_cA X 0, 6, .inl (gC 17)) := rfl
theorem ua_17 {X : z_X} {gC gM g2 : z_G} {i v : Int32} (h : g2 = z_wr gC 17 i v) : va_up (z_wf X gC gM) 17 (.inl (z_cA X 0, 6, .inl (upd (gC 17) i.toNatClampNeg v))) = z_wf X g2 gM := by
  subst h
  exact z_wf_upC (k := 17) (f := upd (gC 17) i.toNatClampNeg v) (by decide)
theorem uc_17 {X : z_X} {gC gM g2 : z_G} {k0 : Nat} {sp dp n : Int32} (h : g2 = z_cp gC k0 17 sp dp n) : va_up (z_wf X gC gM) 17 (.inl (z_cA X 0, 6, .inl (va_cpy (gC k0) (gC 17) sp.toNatClampNeg dp.toNatClampNeg n.toNatClampNeg))) = z_wf X g2 gM := by
  subst h
  exact z_wf_upC (k := 17) (by decide)
theorem e_18 {X : z_X} {gC gM : z_G} : z_wf X gC gM 18 = .inr (0, [.ref (z_ad X 19), .ref (z_ad X 20), .int (gC 18 2), .int (gC 18 3)]) := rfl
theorem u_18_2 {X : z_X} {gC gM g2 : z_G} {v : Int32} (h : g2 = z_up gC 18 2 v) : va_up (z_wf X gC gM) 18 (.inr (0, [.ref (z_ad X 19), .ref (z_ad X 20), .int v, .int (gC 18 3)])) = z_wf X g2 gM := by
  subst h
  exact z_wf_upC (k := 18) (f := upd (gC 18) 2 v) (by decide)
theorem u_18_3 {X : z_X} {gC gM g2 : z_G} {v : Int32} (h : g2 = z_up gC 18 3 v) : va_up (z_wf X gC gM) 18 (.inr (0, [.ref (z_ad X 19), .ref (z_ad X 20), .int (gC 18 2), .int v])) = z_wf X g2 gM := by
  subst h
  exact z_wf_upC (k := 18) (f := upd (gC 18) 3 v) (by decide)
theorem e_19 {X : z_X} {gC gM : z_G} : z_wf X gC gM 19 = .inl (z_cA X 0, 6, .inl (gC 19)) := rfl
theorem ua_19 {X : z_X} {gC gM g2 : z_G} {i v : Int32} (h : g2 = z_wr gC 19 i v) : va_up (z_wf X gC gM) 19 (.inl (z_cA X 0, 6, .inl (upd (gC 19) i.toNatClampNeg v))) = z_wf X g2 gM := by
  subst h
  exact z_wf_upC (k := 19) (f := upd (gC 19) i.toNatClampNeg v) (by decide)
theorem uc_19 {X : z_X} {gC gM g2 : z_G} {k0 : Nat} {sp dp n : Int32} (h : g2 = z_cp gC k0 19 sp dp n) : va_up (z_wf X gC gM) 19 (.inl (z_cA X 0, 6, .inl (va_cpy (gC k0) (gC 19) sp.toNatClampNeg dp.toNatClampNeg n.toNatClampNeg))) = z_wf X g2 gM := by
  subst h
  exact z_wf_upC (k := 19) (by decide)
theorem e_20 {X : z_X} {gC gM : z_G} : z_wf X gC gM 20 = .inl (z_cA X 0, 6, .inl (gC 20)) := rfl
theorem ua_20 {X : z_X} {gC gM g2 : z_G} {i v : Int32} (h : g2 = z_wr gC 20 i v) : va_up (z_wf X gC gM) 20 (.inl (z_cA X 0, 6, .inl (upd (gC 20) i.toNatClampNeg v))) = z_wf X g2 gM := by
  subst h
  exact z_wf_upC (k := 20) (f := upd (gC 20) i.toNatClampNeg v) (by decide)
theorem uc_20 {X : z_X} {gC gM g2 : z_G} {k0 : Nat} {sp dp n : Int32} (h : g2 = z_cp gC k0 20 sp dp n) : va_up (z_wf X gC gM) 20 (.inl (z_cA X 0, 6, .inl (va_cpy (gC k0) (gC 20) sp.toNatClampNeg dp.toNatClampNeg n.toNatClampNeg))) = z_wf X g2 gM := by
  subst h
  exact z_wf_upC (k := 20) (by decide)
theorem e_21 {X : z_X} {gC gM : z_G} : z_wf X gC gM 21 = .inr (0, [.ref (z_ad X 22), .ref (z_ad X 23), .int (gC 21 2), .int (gC 21 3)]) := rfl
theorem u_21_2 {X : z_X} {gC gM g2 : z_G} {v : Int32} (h : g2 = z_up gC 21 2 v) : va_up (z_wf X gC gM) 21 (.inr (0, [.ref (z_ad X 22), .ref (z_ad X 23), .int v, .int (gC 21 3)])) = z_wf X g2 gM := by
  subst h
  exact z_wf_upC (k := 21) (f := upd (gC 21) 2 v) (by decide)
theorem u_21_3 {X : z_X} {gC gM g2 : z_G} {v : Int32} (h : g2 = z_up gC 21 3 v) : va_up (z_wf X gC gM) 21 (.inr (0, [.ref (z_ad X 22), .ref (z_ad X 23), .int (gC 21 2), .int v])) = z_wf X g2 gM := by
  subst h
  exact z_wf_upC (k := 21) (f := upd (gC 21) 3 v) (by decide)
theorem e_22 {X : z_X} {gC gM : z_G} : z_wf X gC gM 22 = .inl (z_cA X 0, 6, .inl (gC 22)) := rfl
theorem ua_22 {X : z_X} {gC gM g2 : z_G} {i v : Int32} (h : g2 = z_wr gC 22 i v) : va_up (z_wf X gC gM) 22 (.inl (z_cA X 0, 6, .inl (upd (gC 22) i.toNatClampNeg v))) = z_wf X g2 gM := by
  subst h
  exact z_wf_upC (k := 22) (f := upd (gC 22) i.toNatClampNeg v) (by decide)
theorem uc_22 {X : z_X} {gC gM g2 : z_G} {k0 : Nat} {sp dp n : Int32} (h : g2 = z_cp gC k0 22 sp dp n) : va_up (z_wf X gC gM) 22 (.inl (z_cA X 0, 6, .inl (va_cpy (gC k0) (gC 22) sp.toNatClampNeg dp.toNatClampNeg n.toNatClampNeg))) = z_wf X g2 gM := by
  subst h
  exact z_wf_upC (k := 22) (by decide)
theorem e_23 {X : z_X} {gC gM : z_G} : z_wf X gC gM 23 = .inl (z_cA X 0, 6, .inl (gC 23)) := rfl
theorem ua_23 {X : z_X} {gC gM g2 : z_G} {i v : Int32} (h : g2 = z_wr gC 23 i v) : va_up (z_wf X gC gM) 23 (.inl (z_cA X 0, 6, .inl (upd (gC 23) i.toNatClampNeg v))) = z_wf X g2 gM := by
  subst h
  exact z_wf_upC (k := 23) (f := upd (gC 23) i.toNatClampNeg v) (by decide)
theorem uc_23 {X : z_X} {gC gM g2 : z_G} {k0 : Nat} {sp dp n : Int32} (h : g2 = z_cp gC k0 23 sp dp n) : va_up (z_wf X gC gM) 23 (.inl (z_cA X 0, 6, .inl (va_cpy (gC k0) (gC 23) sp.toNatClampNeg dp.toNatClampNeg n.toNatClampNeg))) = z_wf X g2 gM := by
  subst h
  exact z_wf_upC (k := 23) (by decide)
theorem e_24 {X : z_X} {gC gM : z_G} : z_wf X gC gM 24 = .inr (0, [.ref (z_ad X 25), .ref (z_ad X 26), .int (gC 24 2), .int (gC 24 3)]) := rfl
theorem u_24_2 {X : z_X} {gC gM g2 : z_G} {v : Int32} (h : g2 = z_up gC 24 2 v) : va_up (z_wf X gC gM) 24 (.inr (0, [.ref (z_ad X 25), .ref (z_ad X 26), .int v, .int (gC 24 3)])) = z_wf X g2 gM := by
  subst h
  exact z_wf_upC (k := 24) (f := upd (gC 24) 2 v) (by decide)
theorem u_24_3 {X : z_X} {gC gM g2 : z_G} {v : Int32} (h : g2 = z_up gC 24 3 v) : va_up (z_wf X gC gM) 24 (.inr (0, [.ref (z_ad X 25), .ref (z_ad X 26), .int (gC 24 2), .int v])) = z_wf X g2 gM := by
  subst h
  exact z_wf_upC (k := 24) (f := upd (gC 24) 3 v) (by decide)
theorem e_25 {X : z_X} {gC gM : z_G} : z_wf X gC gM 25 = .inl (z_cA X 0, 6, .inl (gC 25)) := rfl
theorem ua_25 {X : z_X} {gC gM g2 : z_G} {i v : Int32} (h : g2 = z_wr gC 25 i v) : va_up (z_wf X gC gM) 25 (.inl (z_cA X 0, 6, .inl (upd (gC 25) i.toNatClampNeg v))) = z_wf X g2 gM := by
  subst h
  exact z_wf_upC (k := 25) (f := upd (gC 25) i.toNatClampNeg v) (by decide)
theorem uc_25 {X : z_X} {gC gM g2 : z_G} {k0 : Nat} {sp dp n : Int32} (h : g2 = z_cp gC k0 25 sp dp n) : va_up (z_wf X gC gM) 25 (.inl (z_cA X 0, 6, .inl (va_cpy (gC k0) (gC 25) sp.toNatClampNeg dp.toNatClampNeg n.toNatClampNeg))) = z_wf X g2 gM := by
  subst h
  exact z_wf_upC (k := 25) (by decide)
theorem e_26 {X : z_X} {gC gM : z_G} : z_wf X gC gM 26 = .inl (z_cA X 0, 6, .inl (gC 26)) := rfl
theorem ua_26 {X : z_X} {gC gM g2 : z_G} {i v : Int32} (h : g2 = z_wr gC 26 i v) : va_up (z_wf X gC gM) 26 (.inl (z_cA X 0, 6, .inl (upd (gC 26) i.toNatClampNeg v))) = z_wf X g2 gM := by
  subst h
  exact z_wf_upC (k := 26) (f := upd (gC 26) i.toNatClampNeg v) (by decide)
theorem uc_26 {X : z_X} {gC gM g2 : z_G} {k0 : Nat} {sp dp n : Int32} (h : g2 = z_cp gC k0 26 sp dp n) : va_up (z_wf X gC gM) 26 (.inl (z_cA X 0, 6, .inl (va_cpy (gC k0) (gC 26) sp.toNatClampNeg dp.toNatClampNeg n.toNatClampNeg))) = z_wf X g2 gM := by
  subst h
  exact z_wf_upC (k := 26) (by decide)
theorem e_27 {X : z_X} {gC gM : z_G} : z_wf X gC gM 27 = .inr (0, [.ref (z_ad X 28), .ref (z_ad X 29), .int (gC 27 2), .int (gC 27 3)]) := rfl
theorem u_27_2 {X : z_X} {gC gM g2 : z_G} {v : Int32} (h : g2 = z_up gC 27 2 v) : va_up (z_wf X gC gM) 27 (.inr (0, [.ref (z_ad X 28), .ref (z_ad X 29), .int v, .int (gC 27 3)])) = z_wf X g2 gM := by
  subst h
  exact z_wf_upC (k := 27) (f := upd (gC 27) 2 v) (by decide)
theorem u_27_3 {X : z_X} {gC gM g2 : z_G} {v : Int32} (h : g2 = z_up gC 27 3 v) : va_up (z_wf X gC gM) 27 (.inr (0, [.ref (z_ad X 28), .ref (z_ad X 29), .int (gC 27 2), .int v])) = z_wf X g2 gM := by
  subst h
  exact z_wf_upC (k := 27) (f := upd (gC 27) 3 v) (by decide)
theorem e_28 {X : z_X} {gC gM : z_G} : z_wf X gC gM 28 = .inl (z_cA X 0, 6, .inl (gC 28)) := rfl
theorem ua_28 {X : z_X} {gC gM g2 : z_G} {i v : Int32} (h : g2 = z_wr gC 28 i v) : va_up (z_wf X gC gM) 28 (.inl (z_cA X 0, 6, .inl (upd (gC 28) i.toNatClampNeg v))) = z_wf X g2 gM := by
  subst h
  exact z_wf_upC (k := 28) (f := upd (gC 28) i.toNatClampNeg v) (by decide)
theorem uc_28 {X : z_X} {gC gM g2 : z_G} {k0 : Nat} {sp dp n : Int32} (h : g2 = z_cp gC k0 28 sp dp n) : va_up (z_wf X gC gM) 28 (.inl (z_cA X 0, 6, .inl (va_cpy (gC k0) (gC 28) sp.toNatClampNeg dp.toNatClampNeg n.toNatClampNeg))) = z_wf X g2 gM := by
  subst h
  exact z_wf_upC (k := 28) (by decide)
theorem e_29 {X : z_X} {gC gM : z_G} : z_wf X gC gM 29 = .inl (z_cA X 0, 6, .inl (gC 29)) := rfl
theorem ua_29 {X : z_X} {gC gM g2 : z_G} {i v : Int32} (h : g2 = z_wr gC 29 i v) : va_up (z_wf X gC gM) 29 (.inl (z_cA X 0, 6, .inl (upd (gC 29) i.toNatClampNeg v))) = z_wf X g2 gM := by
  subst h
  exact z_wf_upC (k := 29) (f := upd (gC 29) i.toNatClampNeg v) (by decide)
theorem uc_29 {X : z_X} {gC gM g2 : z_G} {k0 : Nat} {sp dp n : Int32} (h : g2 = z_cp gC k0 29 sp dp n) : va_up (z_wf X gC gM) 29 (.inl (z_cA X 0, 6, .inl (va_cpy (gC k0) (gC 29) sp.toNatClampNeg dp.toNatClampNeg n.toNatClampNeg))) = z_wf X g2 gM := by
  subst h
  exact z_wf_upC (k := 29) (by decide)
theorem e_30 {X : z_X} {gC gM : z_G} : z_wf X gC gM 30 = .inr (0, [.ref (z_ad X 31), .ref (z_ad X 32), .int (gC 30 2), .int (gC 30 3)]) := rfl
theorem u_30_2 {X : z_X} {gC gM g2 : z_G} {v : Int32} (h : g2 = z_up gC 30 2 v) : va_up (z_wf X gC gM) 30 (.inr (0, [.ref (z_ad X 31), .ref (z_ad X 32), .int v, .int (gC 30 3)])) = z_wf X g2 gM := by
  subst h
  exact z_wf_upC (k := 30) (f := upd (gC 30) 2 v) (by decide)
theorem u_30_3 {X : z_X} {gC gM g2 : z_G} {v : Int32} (h : g2 = z_up gC 30 3 v) : va_up (z_wf X gC gM) 30 (.inr (0, [.ref (z_ad X 31), .ref (z_ad X 32), .int (gC 30 2), .int v])) = z_wf X g2 gM := by
  subst h
  exact z_wf_upC (k := 30) (f := upd (gC 30) 3 v) (by decide)
theorem e_31 {X : z_X} {gC gM : z_G} : z_wf X gC gM 31 = .inl (z_cA X 0, 6, .inl (gC 31)) := rfl
theorem ua_31 {X : z_X} {gC gM g2 : z_G} {i v : Int32} (h : g2 = z_wr gC 31 i v) : va_up (z_wf X gC gM) 31 (.inl (z_cA X 0, 6, .inl (upd (gC 31) i.toNatClampNeg v))) = z_wf X g2 gM := by
  subst h
  exact z_wf_upC (k := 31) (f := upd (gC 31) i.toNatClampNeg v) (by decide)
theorem uc_31 {X : z_X} {gC gM g2 : z_G} {k0 : Nat} {sp dp n : Int32} (h : g2 = z_cp gC k0 31 sp dp n) : va_up (z_wf X gC gM) 31 (.inl (z_cA X 0, 6, .inl (va_cpy (gC k0) (gC 31) sp.toNatClampNeg dp.toNatClampNeg n.toNatClampNeg))) = z_wf X g2 gM := by
  subst h
  exact z_wf_upC (k := 31) (by decide)
theorem e_32 {X : z_X} {gC gM : z_G} : z_wf X gC gM 32 = .inl (z_cA X 0, 6, .inl (gC 32)) := rfl
theorem ua_32 {X : z_X} {gC gM g2 : z_G} {i v : Int32} (h : g2 = z_wr gC 32 i v) : va_up (z_wf X gC gM) 32 (.inl (z_cA X 0, 6, .inl (upd (gC 32) i.toNatClampNeg v))) = z_wf X g2 gM := by
  subst h
  exact z_wf_upC (k := 32) (f := upd (gC 32) i.toNatClampNeg v) (by decide)
theorem uc_32 {X : z_X} {gC gM g2 : z_G} {k0 : Nat} {sp dp n : Int32} (h : g2 = z_cp gC k0 32 sp dp n) : va_up (z_wf X gC gM) 32 (.inl (z_cA X 0, 6, .inl (va_cpy (gC k0) (gC 32) sp.toNatClampNeg dp.toNatClampNeg n.toNatClampNeg))) = z_wf X g2 gM := by
  subst h
  exact z_wf_upC (k := 32) (by decide)
theorem e_33 {X : z_X} {gC gM : z_G} : z_wf X gC gM 33 = .inr (0, [.ref (z_ad X 34), .ref (z_ad X 35), .int (gC 33 2), .int (gC 33 3)]) := rfl
theorem u_33_2 {X : z_X} {gC gM g2 : z_G} {v : Int32} (h : g2 = z_up gC 33 2 v) : va_up (z_wf X gC gM) 33 (.inr (0, [.ref (z_ad X 34), .ref (z_ad X 35), .int v, .int (gC 33 3)])) = z_wf X g2 gM := by
  subst h
  exact z_wf_upC (k := 33) (f := upd (gC 33) 2 v) (by decide)
theorem u_33_3 {X : z_X} {gC gM g2 : z_G} {v : Int32} (h : g2 = z_up gC 33 3 v) : va_up (z_wf X gC gM) 33 (.inr (0, [.ref (z_ad X 34), .ref (z_ad X 35), .int (gC 33 2), .int v])) = z_wf X g2 gM := by
  subst h
  exact z_wf_upC (k := 33) (f := upd (gC 33) 3 v) (by decide)
theorem e_34 {X : z_X} {gC gM : z_G} : z_wf X gC gM 34 = .inl (z_cA X 0, 6, .inl (gC 34)) := rfl
theorem ua_34 {X : z_X} {gC gM g2 : z_G} {i v : Int32} (h : g2 = z_wr gC 34 i v) : va_up (z_wf X gC gM) 34 (.inl (z_cA X 0, 6, .inl (upd (gC 34) i.toNatClampNeg v))) = z_wf X g2 gM := by
  subst h
  exact z_wf_upC (k := 34) (f := upd (gC 34) i.toNatClampNeg v) (by decide)
theorem uc_34 {X : z_X} {gC gM g2 : z_G} {k0 : Nat} {sp dp n : Int32} (h : g2 = z_cp gC k0 34 sp dp n) : va_up (z_wf X gC gM) 34 (.inl (z_cA X 0, 6, .inl (va_cpy (gC k0) (gC 34) sp.toNatClampNeg dp.toNatClampNeg n.toNatClampNeg))) = z_wf X g2 gM := by
  subst h
  exact z_wf_upC (k := 34) (by decide)
theorem e_35 {X : z_X} {gC gM : z_G} : z_wf X gC gM 35 = .inl (z_cA X 0, 6, .inl (gC 35)) := rfl
theorem ua_35 {X : z_X} {gC gM g2 : z_G} {i v : Int32} (h : g2 = z_wr gC 35 i v) : va_up (z_wf X gC gM) 35 (.inl (z_cA X 0, 6, .inl (upd (gC 35) i.toNatClampNeg v))) = z_wf X g2 gM := by
  subst h
  exact z_wf_upC (k := 35) (f := upd (gC 35) i.toNatClampNeg v) (by decide)
theorem uc_35 {X : z_X} {gC gM g2 : z_G} {k0 : Nat} {sp dp n : Int32} (h : g2 = z_cp gC k0 35 sp dp n) : va_up (z_wf X gC gM) 35 (.inl (z_cA X 0, 6, .inl (va_cpy (gC k0) (gC 35) sp.toNatClampNeg dp.toNatClampNeg n.toNatClampNeg))) = z_wf X g2 gM := by
  subst h
  exact z_wf_upC (k := 35) (by decide)
theorem e_36 {X : z_X} {gC gM : z_G} : z_wf X gC gM 36 = .inr (0, [.ref (z_ad X 37), .ref (z_ad X 38), .int (gC 36 2), .int (gC 36 3)]) := rfl
theorem u_36_2 {X : z_X} {gC gM g2 : z_G} {v : Int32} (h : g2 = z_up gC 36 2 v) : va_up (z_wf X gC gM) 36 (.inr (0, [.ref (z_ad X 37), .ref (z_ad X 38), .int v, .int (gC 36 3)])) = z_wf X g2 gM := by
  subst h
  exact z_wf_upC (k := 36) (f := upd (gC 36) 2 v) (by decide)
theorem u_36_3 {X : z_X} {gC gM g2 : z_G} {v : Int32} (h : g2 = z_up gC 36 3 v) : va_up (z_wf X gC gM) 36 (.inr (0, [.ref (z_ad X 37), .ref (z_ad X 38), .int (gC 36 2), .int v])) = z_wf X g2 gM := by
  subst h
  exact z_wf_upC (k := 36) (f := upd (gC 36) 3 v) (by decide)
theorem e_37 {X : z_X} {gC gM : z_G} : z_wf X gC gM 37 = .inl (z_cA X 0, 6, .inl (gC 37)) := rfl
theorem ua_37 {X : z_X} {gC gM g2 : z_G} {i v : Int32} (h : g2 = z_wr gC 37 i v) : va_up (z_wf X gC gM) 37 (.inl (z_cA X 0, 6, .inl (upd (gC 37) i.toNatClampNeg v))) = z_wf X g2 gM := by
  subst h
  exact z_wf_upC (k := 37) (f := upd (gC 37) i.toNatClampNeg v) (by decide)
theorem uc_37 {X : z_X} {gC gM g2 : z_G} {k0 : Nat} {sp dp n : Int32} (h : g2 = z_cp gC k0 37 sp dp n) : va_up (z_wf X gC gM) 37 (.inl (z_cA X 0, 6, .inl (va_cpy (gC k0) (gC 37) sp.toNatClampNeg dp.toNatClampNeg n.toNatClampNeg))) = z_wf X g2 gM := by
  subst h
  exact z_wf_upC (k := 37) (by decide)
theorem e_38 {X : z_X} {gC gM : z_G} : z_wf X gC gM 38 = .inl (z_cA X 0, 6, .inl (gC 38)) := rfl
theorem ua_38 {X : z_X} {gC gM g2 : z_G} {i v : Int32} (h : g2 = z_wr gC 38 i v) : va_up (z_wf X gC gM) 38 (.inl (z_cA X 0, 6, .inl (upd (gC 38) i.toNatClampNeg v))) = z_wf X g2 gM := by
  subst h
  exact z_wf_upC (k := 38) (f := upd (gC 38) i.toNatClampNeg v) (by decide)
theorem uc_38 {X : z_X} {gC gM g2 : z_G} {k0 : Nat} {sp dp n : Int32} (h : g2 = z_cp gC k0 38 sp dp n) : va_up (z_wf X gC gM) 38 (.inl (z_cA X 0, 6, .inl (va_cpy (gC k0) (gC 38) sp.toNatClampNeg dp.toNatClampNeg n.toNatClampNeg))) = z_wf X g2 gM := by
  subst h
  exact z_wf_upC (k := 38) (by decide)
theorem e_39 {X : z_X} {gC gM : z_G} : z_wf X gC gM 39 = .inr (9, [.ref (z_ad X 40), .int (gC 39 1), .ref (z_ad X 41), .ref (z_ad X 43), .ref (z_ad X 0), .ref (z_ad X 3), .ref (z_ad X 51), .ref (z_ad X 57), .ref (z_ad X 61), .ref (z_ad X 63), .ref (z_ad X 65), .ref (z_ad X 67)]) := rfl
theorem u_39_1 {X : z_X} {gC gM g2 : z_G} {v : Int32} (h : g2 = z_up gC 39 1 v) : va_up (z_wf X gC gM) 39 (.inr (9, [.ref (z_ad X 40), .int v, .ref (z_ad X 41), .ref (z_ad X 43), .ref (z_ad X 0), .ref (z_ad X 3), .ref (z_ad X 51), .ref (z_ad X 57), .ref (z_ad X 61), .ref (z_ad X 63), .ref (z_ad X 65), .ref (z_ad X 67)])) = z_wf X g2 gM := by
  subst h
  exact z_wf_upC (k := 39) (f := upd (gC 39) 1 v) (by decide)
theorem e_40 {X : z_X} {gC gM : z_G} : z_wf X gC gM 40 = .inl (z_cA X 1, 200, .inl (gC 40)) := rfl
theorem ua_40 {X : z_X} {gC gM g2 : z_G} {i v : Int32} (h : g2 = z_wr gC 40 i (vp_nar .char v)) : va_up (z_wf X gC gM) 40 (.inl (z_cA X 1, 200, .inl (upd (gC 40) i.toNatClampNeg (vp_nar .char v)))) = z_wf X g2 gM := by
  subst h
  exact z_wf_upC (k := 40) (f := upd (gC 40) i.toNatClampNeg (vp_nar .char v)) (by decide)
theorem e_41 {X : z_X} {gC gM : z_G} : z_wf X gC gM 41 = .inr (5, [.ref (z_ad X 47), .ref (z_ad X 6), .ref (z_ad X 54), .ref (z_ad X 42)]) := rfl
theorem e_42 {X : z_X} {gC gM : z_G} : z_wf X gC gM 42 = .inl (z_cA X 0, 6, .inl (gC 42)) := rfl
theorem ua_42 {X : z_X} {gC gM g2 : z_G} {i v : Int32} (h : g2 = z_wr gC 42 i v) : va_up (z_wf X gC gM) 42 (.inl (z_cA X 0, 6, .inl (upd (gC 42) i.toNatClampNeg v))) = z_wf X g2 gM := by
  subst h
  exact z_wf_upC (k := 42) (f := upd (gC 42) i.toNatClampNeg v) (by decide)
theorem uc_42 {X : z_X} {gC gM g2 : z_G} {k0 : Nat} {sp dp n : Int32} (h : g2 = z_cp gC k0 42 sp dp n) : va_up (z_wf X gC gM) 42 (.inl (z_cA X 0, 6, .inl (va_cpy (gC k0) (gC 42) sp.toNatClampNeg dp.toNatClampNeg n.toNatClampNeg))) = z_wf X g2 gM := by
  subst h
  exact z_wf_upC (k := 42) (by decide)
theorem e_43 {X : z_X} {gC gM : z_G} : z_wf X gC gM 43 = .inr (3, [.int (gC 43 0), .int (gC 43 1), .int (gC 43 2), .ref (z_ad X 44), .ref (z_ad X 45), .ref (z_ad X 46)]) := rfl
theorem u_43_0 {X : z_X} {gC gM g2 : z_G} {v : Int32} (h : g2 = z_up gC 43 0 v) : va_up (z_wf X gC gM) 43 (.inr (3, [.int v, .int (gC 43 1), .int (gC 43 2), .ref (z_ad X 44), .ref (z_ad X 45), .ref (z_ad X 46)])) = z_wf X g2 gM := by
  subst h
  exact z_wf_upC (k := 43) (f := upd (gC 43) 0 v) (by decide)
theorem u_43_1 {X : z_X} {gC gM g2 : z_G} {v : Int32} (h : g2 = z_up gC 43 1 v) : va_up (z_wf X gC gM) 43 (.inr (3, [.int (gC 43 0), .int v, .int (gC 43 2), .ref (z_ad X 44), .ref (z_ad X 45), .ref (z_ad X 46)])) = z_wf X g2 gM := by
  subst h
  exact z_wf_upC (k := 43) (f := upd (gC 43) 1 v) (by decide)
theorem u_43_2 {X : z_X} {gC gM g2 : z_G} {v : Int32} (h : g2 = z_up gC 43 2 v) : va_up (z_wf X gC gM) 43 (.inr (3, [.int (gC 43 0), .int (gC 43 1), .int v, .ref (z_ad X 44), .ref (z_ad X 45), .ref (z_ad X 46)])) = z_wf X g2 gM := by
  subst h
  exact z_wf_upC (k := 43) (f := upd (gC 43) 2 v) (by decide)
theorem e_44 {X : z_X} {gC gM : z_G} : z_wf X gC gM 44 = .inl (z_cA X 0, 4, .inl (gC 44)) := rfl
theorem ua_44 {X : z_X} {gC gM g2 : z_G} {i v : Int32} (h : g2 = z_wr gC 44 i v) : va_up (z_wf X gC gM) 44 (.inl (z_cA X 0, 4, .inl (upd (gC 44) i.toNatClampNeg v))) = z_wf X g2 gM := by
  subst h
  exact z_wf_upC (k := 44) (f := upd (gC 44) i.toNatClampNeg v) (by decide)
theorem uc_44 {X : z_X} {gC gM g2 : z_G} {k0 : Nat} {sp dp n : Int32} (h : g2 = z_cp gC k0 44 sp dp n) : va_up (z_wf X gC gM) 44 (.inl (z_cA X 0, 4, .inl (va_cpy (gC k0) (gC 44) sp.toNatClampNeg dp.toNatClampNeg n.toNatClampNeg))) = z_wf X g2 gM := by
  subst h
  exact z_wf_upC (k := 44) (by decide)
theorem e_45 {X : z_X} {gC gM : z_G} : z_wf X gC gM 45 = .inl (z_cA X 0, 6, .inl (gC 45)) := rfl
theorem ua_45 {X : z_X} {gC gM g2 : z_G} {i v : Int32} (h : g2 = z_wr gC 45 i v) : va_up (z_wf X gC gM) 45 (.inl (z_cA X 0, 6, .inl (upd (gC 45) i.toNatClampNeg v))) = z_wf X g2 gM := by
  subst h
  exact z_wf_upC (k := 45) (f := upd (gC 45) i.toNatClampNeg v) (by decide)
theorem uc_45 {X : z_X} {gC gM g2 : z_G} {k0 : Nat} {sp dp n : Int32} (h : g2 = z_cp gC k0 45 sp dp n) : va_up (z_wf X gC gM) 45 (.inl (z_cA X 0, 6, .inl (va_cpy (gC k0) (gC 45) sp.toNatClampNeg dp.toNatClampNeg n.toNatClampNeg))) = z_wf X g2 gM := by
  subst h
  exact z_wf_upC (k := 45) (by decide)
theorem e_46 {X : z_X} {gC gM : z_G} : z_wf X gC gM 46 = .inl (z_cA X 0, 6, .inl (gC 46)) := rfl
theorem ua_46 {X : z_X} {gC gM g2 : z_G} {i v : Int32} (h : g2 = z_wr gC 46 i v) : va_up (z_wf X gC gM) 46 (.inl (z_cA X 0, 6, .inl (upd (gC 46) i.toNatClampNeg v))) = z_wf X g2 gM := by
  subst h
  exact z_wf_upC (k := 46) (f := upd (gC 46) i.toNatClampNeg v) (by decide)
theorem uc_46 {X : z_X} {gC gM g2 : z_G} {k0 : Nat} {sp dp n : Int32} (h : g2 = z_cp gC k0 46 sp dp n) : va_up (z_wf X gC gM) 46 (.inl (z_cA X 0, 6, .inl (va_cpy (gC k0) (gC 46) sp.toNatClampNeg dp.toNatClampNeg n.toNatClampNeg))) = z_wf X g2 gM := by
  subst h
  exact z_wf_upC (k := 46) (by decide)
theorem e_47 {X : z_X} {gC gM : z_G} : z_wf X gC gM 47 = .inr (3, [.int (gC 47 0), .int (gC 47 1), .int (gC 47 2), .ref (z_ad X 48), .ref (z_ad X 49), .ref (z_ad X 50)]) := rfl
theorem u_47_0 {X : z_X} {gC gM g2 : z_G} {v : Int32} (h : g2 = z_up gC 47 0 v) : va_up (z_wf X gC gM) 47 (.inr (3, [.int v, .int (gC 47 1), .int (gC 47 2), .ref (z_ad X 48), .ref (z_ad X 49), .ref (z_ad X 50)])) = z_wf X g2 gM := by
  subst h
  exact z_wf_upC (k := 47) (f := upd (gC 47) 0 v) (by decide)
theorem u_47_1 {X : z_X} {gC gM g2 : z_G} {v : Int32} (h : g2 = z_up gC 47 1 v) : va_up (z_wf X gC gM) 47 (.inr (3, [.int (gC 47 0), .int v, .int (gC 47 2), .ref (z_ad X 48), .ref (z_ad X 49), .ref (z_ad X 50)])) = z_wf X g2 gM := by
  subst h
  exact z_wf_upC (k := 47) (f := upd (gC 47) 1 v) (by decide)
theorem u_47_2 {X : z_X} {gC gM g2 : z_G} {v : Int32} (h : g2 = z_up gC 47 2 v) : va_up (z_wf X gC gM) 47 (.inr (3, [.int (gC 47 0), .int (gC 47 1), .int v, .ref (z_ad X 48), .ref (z_ad X 49), .ref (z_ad X 50)])) = z_wf X g2 gM := by
  subst h
  exact z_wf_upC (k := 47) (f := upd (gC 47) 2 v) (by decide)
theorem e_48 {X : z_X} {gC gM : z_G} : z_wf X gC gM 48 = .inl (z_cA X 0, 4, .inl (gC 48)) := rfl
theorem ua_48 {X : z_X} {gC gM g2 : z_G} {i v : Int32} (h : g2 = z_wr gC 48 i v) : va_up (z_wf X gC gM) 48 (.inl (z_cA X 0, 4, .inl (upd (gC 48) i.toNatClampNeg v))) = z_wf X g2 gM := by
  subst h
  exact z_wf_upC (k := 48) (f := upd (gC 48) i.toNatClampNeg v) (by decide)
theorem uc_48 {X : z_X} {gC gM g2 : z_G} {k0 : Nat} {sp dp n : Int32} (h : g2 = z_cp gC k0 48 sp dp n) : va_up (z_wf X gC gM) 48 (.inl (z_cA X 0, 4, .inl (va_cpy (gC k0) (gC 48) sp.toNatClampNeg dp.toNatClampNeg n.toNatClampNeg))) = z_wf X g2 gM := by
  subst h
  exact z_wf_upC (k := 48) (by decide)
theorem e_49 {X : z_X} {gC gM : z_G} : z_wf X gC gM 49 = .inl (z_cA X 0, 6, .inl (gC 49)) := rfl
theorem ua_49 {X : z_X} {gC gM g2 : z_G} {i v : Int32} (h : g2 = z_wr gC 49 i v) : va_up (z_wf X gC gM) 49 (.inl (z_cA X 0, 6, .inl (upd (gC 49) i.toNatClampNeg v))) = z_wf X g2 gM := by
  subst h
  exact z_wf_upC (k := 49) (f := upd (gC 49) i.toNatClampNeg v) (by decide)
theorem uc_49 {X : z_X} {gC gM g2 : z_G} {k0 : Nat} {sp dp n : Int32} (h : g2 = z_cp gC k0 49 sp dp n) : va_up (z_wf X gC gM) 49 (.inl (z_cA X 0, 6, .inl (va_cpy (gC k0) (gC 49) sp.toNatClampNeg dp.toNatClampNeg n.toNatClampNeg))) = z_wf X g2 gM := by
  subst h
  exact z_wf_upC (k := 49) (by decide)
theorem e_50 {X : z_X} {gC gM : z_G} : z_wf X gC gM 50 = .inl (z_cA X 0, 6, .inl (gC 50)) := rfl
theorem ua_50 {X : z_X} {gC gM g2 : z_G} {i v : Int32} (h : g2 = z_wr gC 50 i v) : va_up (z_wf X gC gM) 50 (.inl (z_cA X 0, 6, .inl (upd (gC 50) i.toNatClampNeg v))) = z_wf X g2 gM := by
  subst h
  exact z_wf_upC (k := 50) (f := upd (gC 50) i.toNatClampNeg v) (by decide)
theorem uc_50 {X : z_X} {gC gM g2 : z_G} {k0 : Nat} {sp dp n : Int32} (h : g2 = z_cp gC k0 50 sp dp n) : va_up (z_wf X gC gM) 50 (.inl (z_cA X 0, 6, .inl (va_cpy (gC k0) (gC 50) sp.toNatClampNeg dp.toNatClampNeg n.toNatClampNeg))) = z_wf X g2 gM := by
  subst h
  exact z_wf_upC (k := 50) (by decide)
theorem e_51 {X : z_X} {gC gM : z_G} : z_wf X gC gM 51 = .inr (6, [.ref (z_ad X 52), .ref (z_ad X 53), .int (gC 51 2)]) := rfl
theorem u_51_2 {X : z_X} {gC gM g2 : z_G} {v : Int32} (h : g2 = z_up gC 51 2 v) : va_up (z_wf X gC gM) 51 (.inr (6, [.ref (z_ad X 52), .ref (z_ad X 53), .int v])) = z_wf X g2 gM := by
  subst h
  exact z_wf_upC (k := 51) (f := upd (gC 51) 2 v) (by decide)
theorem e_52 {X : z_X} {gC gM : z_G} : z_wf X gC gM 52 = .inl (z_cA X 0, 6, .inl (gC 52)) := rfl
theorem ua_52 {X : z_X} {gC gM g2 : z_G} {i v : Int32} (h : g2 = z_wr gC 52 i v) : va_up (z_wf X gC gM) 52 (.inl (z_cA X 0, 6, .inl (upd (gC 52) i.toNatClampNeg v))) = z_wf X g2 gM := by
  subst h
  exact z_wf_upC (k := 52) (f := upd (gC 52) i.toNatClampNeg v) (by decide)
theorem uc_52 {X : z_X} {gC gM g2 : z_G} {k0 : Nat} {sp dp n : Int32} (h : g2 = z_cp gC k0 52 sp dp n) : va_up (z_wf X gC gM) 52 (.inl (z_cA X 0, 6, .inl (va_cpy (gC k0) (gC 52) sp.toNatClampNeg dp.toNatClampNeg n.toNatClampNeg))) = z_wf X g2 gM := by
  subst h
  exact z_wf_upC (k := 52) (by decide)
theorem e_53 {X : z_X} {gC gM : z_G} : z_wf X gC gM 53 = .inl (z_cA X 0, 6, .inl (gC 53)) := rfl
theorem ua_53 {X : z_X} {gC gM g2 : z_G} {i v : Int32} (h : g2 = z_wr gC 53 i v) : va_up (z_wf X gC gM) 53 (.inl (z_cA X 0, 6, .inl (upd (gC 53) i.toNatClampNeg v))) = z_wf X g2 gM := by
  subst h
  exact z_wf_upC (k := 53) (f := upd (gC 53) i.toNatClampNeg v) (by decide)
theorem uc_53 {X : z_X} {gC gM g2 : z_G} {k0 : Nat} {sp dp n : Int32} (h : g2 = z_cp gC k0 53 sp dp n) : va_up (z_wf X gC gM) 53 (.inl (z_cA X 0, 6, .inl (va_cpy (gC k0) (gC 53) sp.toNatClampNeg dp.toNatClampNeg n.toNatClampNeg))) = z_wf X g2 gM := by
  subst h
  exact z_wf_upC (k := 53) (by decide)
theorem e_54 {X : z_X} {gC gM : z_G} : z_wf X gC gM 54 = .inr (6, [.ref (z_ad X 55), .ref (z_ad X 56), .int (gC 54 2)]) := rfl
theorem u_54_2 {X : z_X} {gC gM g2 : z_G} {v : Int32} (h : g2 = z_up gC 54 2 v) : va_up (z_wf X gC gM) 54 (.inr (6, [.ref (z_ad X 55), .ref (z_ad X 56), .int v])) = z_wf X g2 gM := by
  subst h
  exact z_wf_upC (k := 54) (f := upd (gC 54) 2 v) (by decide)
theorem e_55 {X : z_X} {gC gM : z_G} : z_wf X gC gM 55 = .inl (z_cA X 0, 6, .inl (gC 55)) := rfl
theorem ua_55 {X : z_X} {gC gM g2 : z_G} {i v : Int32} (h : g2 = z_wr gC 55 i v) : va_up (z_wf X gC gM) 55 (.inl (z_cA X 0, 6, .inl (upd (gC 55) i.toNatClampNeg v))) = z_wf X g2 gM := by
  subst h
  exact z_wf_upC (k := 55) (f := upd (gC 55) i.toNatClampNeg v) (by decide)
theorem uc_55 {X : z_X} {gC gM g2 : z_G} {k0 : Nat} {sp dp n : Int32} (h : g2 = z_cp gC k0 55 sp dp n) : va_up (z_wf X gC gM) 55 (.inl (z_cA X 0, 6, .inl (va_cpy (gC k0) (gC 55) sp.toNatClampNeg dp.toNatClampNeg n.toNatClampNeg))) = z_wf X g2 gM := by
  subst h
  exact z_wf_upC (k := 55) (by decide)
theorem e_56 {X : z_X} {gC gM : z_G} : z_wf X gC gM 56 = .inl (z_cA X 0, 6, .inl (gC 56)) := rfl
theorem ua_56 {X : z_X} {gC gM g2 : z_G} {i v : Int32} (h : g2 = z_wr gC 56 i v) : va_up (z_wf X gC gM) 56 (.inl (z_cA X 0, 6, .inl (upd (gC 56) i.toNatClampNeg v))) = z_wf X g2 gM := by
  subst h
  exact z_wf_upC (k := 56) (f := upd (gC 56) i.toNatClampNeg v) (by decide)
theorem uc_56 {X : z_X} {gC gM g2 : z_G} {k0 : Nat} {sp dp n : Int32} (h : g2 = z_cp gC k0 56 sp dp n) : va_up (z_wf X gC gM) 56 (.inl (z_cA X 0, 6, .inl (va_cpy (gC k0) (gC 56) sp.toNatClampNeg dp.toNatClampNeg n.toNatClampNeg))) = z_wf X g2 gM := by
  subst h
  exact z_wf_upC (k := 56) (by decide)
theorem e_57 {X : z_X} {gC gM : z_G} : z_wf X gC gM 57 = .inr (7, [.ref (z_ad X 58), .ref (z_ad X 59), .ref (z_ad X 60), .int (gC 57 3)]) := rfl
theorem u_57_3 {X : z_X} {gC gM g2 : z_G} {v : Int32} (h : g2 = z_up gC 57 3 v) : va_up (z_wf X gC gM) 57 (.inr (7, [.ref (z_ad X 58), .ref (z_ad X 59), .ref (z_ad X 60), .int v])) = z_wf X g2 gM := by
  subst h
  exact z_wf_upC (k := 57) (f := upd (gC 57) 3 v) (by decide)
theorem e_58 {X : z_X} {gC gM : z_G} : z_wf X gC gM 58 = .inl (z_cA X 0, 6, .inl (gC 58)) := rfl
theorem ua_58 {X : z_X} {gC gM g2 : z_G} {i v : Int32} (h : g2 = z_wr gC 58 i v) : va_up (z_wf X gC gM) 58 (.inl (z_cA X 0, 6, .inl (upd (gC 58) i.toNatClampNeg v))) = z_wf X g2 gM := by
  subst h
  exact z_wf_upC (k := 58) (f := upd (gC 58) i.toNatClampNeg v) (by decide)
theorem uc_58 {X : z_X} {gC gM g2 : z_G} {k0 : Nat} {sp dp n : Int32} (h : g2 = z_cp gC k0 58 sp dp n) : va_up (z_wf X gC gM) 58 (.inl (z_cA X 0, 6, .inl (va_cpy (gC k0) (gC 58) sp.toNatClampNeg dp.toNatClampNeg n.toNatClampNeg))) = z_wf X g2 gM := by
  subst h
  exact z_wf_upC (k := 58) (by decide)
theorem e_59 {X : z_X} {gC gM : z_G} : z_wf X gC gM 59 = .inl (z_cA X 0, 6, .inl (gC 59)) := rfl
theorem ua_59 {X : z_X} {gC gM g2 : z_G} {i v : Int32} (h : g2 = z_wr gC 59 i v) : va_up (z_wf X gC gM) 59 (.inl (z_cA X 0, 6, .inl (upd (gC 59) i.toNatClampNeg v))) = z_wf X g2 gM := by
  subst h
  exact z_wf_upC (k := 59) (f := upd (gC 59) i.toNatClampNeg v) (by decide)
theorem uc_59 {X : z_X} {gC gM g2 : z_G} {k0 : Nat} {sp dp n : Int32} (h : g2 = z_cp gC k0 59 sp dp n) : va_up (z_wf X gC gM) 59 (.inl (z_cA X 0, 6, .inl (va_cpy (gC k0) (gC 59) sp.toNatClampNeg dp.toNatClampNeg n.toNatClampNeg))) = z_wf X g2 gM := by
  subst h
  exact z_wf_upC (k := 59) (by decide)
theorem e_60 {X : z_X} {gC gM : z_G} : z_wf X gC gM 60 = .inl (z_cA X 0, 6, .inl (gC 60)) := rfl
theorem ua_60 {X : z_X} {gC gM g2 : z_G} {i v : Int32} (h : g2 = z_wr gC 60 i v) : va_up (z_wf X gC gM) 60 (.inl (z_cA X 0, 6, .inl (upd (gC 60) i.toNatClampNeg v))) = z_wf X g2 gM := by
  subst h
  exact z_wf_upC (k := 60) (f := upd (gC 60) i.toNatClampNeg v) (by decide)
theorem uc_60 {X : z_X} {gC gM g2 : z_G} {k0 : Nat} {sp dp n : Int32} (h : g2 = z_cp gC k0 60 sp dp n) : va_up (z_wf X gC gM) 60 (.inl (z_cA X 0, 6, .inl (va_cpy (gC k0) (gC 60) sp.toNatClampNeg dp.toNatClampNeg n.toNatClampNeg))) = z_wf X g2 gM := by
  subst h
  exact z_wf_upC (k := 60) (by decide)
theorem e_61 {X : z_X} {gC gM : z_G} : z_wf X gC gM 61 = .inr (4, [.ref (z_ad X 62), .int (gC 61 1)]) := rfl
theorem u_61_1 {X : z_X} {gC gM g2 : z_G} {v : Int32} (h : g2 = z_up gC 61 1 v) : va_up (z_wf X gC gM) 61 (.inr (4, [.ref (z_ad X 62), .int v])) = z_wf X g2 gM := by
  subst h
  exact z_wf_upC (k := 61) (f := upd (gC 61) 1 v) (by decide)
theorem e_62 {X : z_X} {gC gM : z_G} : z_wf X gC gM 62 = .inl (z_cA X 3, 8, .inr (.inr (.inr (.inr (fun j => some (z_ad X (3 * ((gC 62 j).toNatClampNeg % 13)))))))) := rfl
theorem ua_62 {X : z_X} {gC gM g2 : z_G} {i : Int32} {q : Nat} (hq : q < 13) (h : g2 = z_wr gC 62 i (nI q)) : va_up (z_wf X gC gM) 62 (.inl (z_cA X 3, 8, .inr (.inr (.inr (.inr (va_up (fun j => some (z_ad X (3 * ((gC 62 j).toNatClampNeg % 13)))) i.toNatClampNeg (some (z_ad X (3 * q))))))))) = z_wf X g2 gM := by
  subst h
  have e : (va_up (fun j => some (z_ad X (3 * ((gC 62 j).toNatClampNeg % 13)))) i.toNatClampNeg (some (z_ad X (3 * q)))) = (fun j => some (z_ad X (3 * (((upd (gC 62) i.toNatClampNeg (nI q)) j).toNatClampNeg % 13)))) := by
    funext j
    by_cases hj : j = i.toNatClampNeg
    · simp [va_up, upd, hj, nI_clamp (show q < 2 ^ 31 by omega), Nat.mod_eq_of_lt hq]
    · simp [va_up, upd, hj]
  rw [e]
  exact z_wf_upC (k := 62) (f := upd (gC 62) i.toNatClampNeg (nI q)) (by decide)
theorem e_63 {X : z_X} {gC gM : z_G} : z_wf X gC gM 63 = .inr (4, [.ref (z_ad X 64), .int (gC 63 1)]) := rfl
theorem u_63_1 {X : z_X} {gC gM g2 : z_G} {v : Int32} (h : g2 = z_up gC 63 1 v) : va_up (z_wf X gC gM) 63 (.inr (4, [.ref (z_ad X 64), .int v])) = z_wf X g2 gM := by
  subst h
  exact z_wf_upC (k := 63) (f := upd (gC 63) 1 v) (by decide)
theorem e_64 {X : z_X} {gC gM : z_G} : z_wf X gC gM 64 = .inl (z_cA X 3, 2, .inr (.inr (.inr (.inr (fun j => some (z_ad X (3 * ((gC 64 j).toNatClampNeg % 13)))))))) := rfl
theorem ua_64 {X : z_X} {gC gM g2 : z_G} {i : Int32} {q : Nat} (hq : q < 13) (h : g2 = z_wr gC 64 i (nI q)) : va_up (z_wf X gC gM) 64 (.inl (z_cA X 3, 2, .inr (.inr (.inr (.inr (va_up (fun j => some (z_ad X (3 * ((gC 64 j).toNatClampNeg % 13)))) i.toNatClampNeg (some (z_ad X (3 * q))))))))) = z_wf X g2 gM := by
  subst h
  have e : (va_up (fun j => some (z_ad X (3 * ((gC 64 j).toNatClampNeg % 13)))) i.toNatClampNeg (some (z_ad X (3 * q)))) = (fun j => some (z_ad X (3 * (((upd (gC 64) i.toNatClampNeg (nI q)) j).toNatClampNeg % 13)))) := by
    funext j
    by_cases hj : j = i.toNatClampNeg
    · simp [va_up, upd, hj, nI_clamp (show q < 2 ^ 31 by omega), Nat.mod_eq_of_lt hq]
    · simp [va_up, upd, hj]
  rw [e]
  exact z_wf_upC (k := 64) (f := upd (gC 64) i.toNatClampNeg (nI q)) (by decide)
theorem e_65 {X : z_X} {gC gM : z_G} : z_wf X gC gM 65 = .inr (2, [.ref (z_ad X 66), .int (gC 65 1), .int (gC 65 2), .int (gC 65 3)]) := rfl
theorem u_65_1 {X : z_X} {gC gM g2 : z_G} {v : Int32} (h : g2 = z_up gC 65 1 v) : va_up (z_wf X gC gM) 65 (.inr (2, [.ref (z_ad X 66), .int v, .int (gC 65 2), .int (gC 65 3)])) = z_wf X g2 gM := by
  subst h
  exact z_wf_upC (k := 65) (f := upd (gC 65) 1 v) (by decide)
theorem u_65_2 {X : z_X} {gC gM g2 : z_G} {v : Int32} (h : g2 = z_up gC 65 2 v) : va_up (z_wf X gC gM) 65 (.inr (2, [.ref (z_ad X 66), .int (gC 65 1), .int v, .int (gC 65 3)])) = z_wf X g2 gM := by
  subst h
  exact z_wf_upC (k := 65) (f := upd (gC 65) 2 v) (by decide)
theorem u_65_3 {X : z_X} {gC gM g2 : z_G} {v : Int32} (h : g2 = z_up gC 65 3 v) : va_up (z_wf X gC gM) 65 (.inr (2, [.ref (z_ad X 66), .int (gC 65 1), .int (gC 65 2), .int v])) = z_wf X g2 gM := by
  subst h
  exact z_wf_upC (k := 65) (f := upd (gC 65) 3 v) (by decide)
theorem e_66 {X : z_X} {gC gM : z_G} : z_wf X gC gM 66 = .inl (z_cA X 0, 3, .inl (gC 66)) := rfl
theorem ua_66 {X : z_X} {gC gM g2 : z_G} {i v : Int32} (h : g2 = z_wr gC 66 i v) : va_up (z_wf X gC gM) 66 (.inl (z_cA X 0, 3, .inl (upd (gC 66) i.toNatClampNeg v))) = z_wf X g2 gM := by
  subst h
  exact z_wf_upC (k := 66) (f := upd (gC 66) i.toNatClampNeg v) (by decide)
theorem uc_66 {X : z_X} {gC gM g2 : z_G} {k0 : Nat} {sp dp n : Int32} (h : g2 = z_cp gC k0 66 sp dp n) : va_up (z_wf X gC gM) 66 (.inl (z_cA X 0, 3, .inl (va_cpy (gC k0) (gC 66) sp.toNatClampNeg dp.toNatClampNeg n.toNatClampNeg))) = z_wf X g2 gM := by
  subst h
  exact z_wf_upC (k := 66) (by decide)
theorem e_67 {X : z_X} {gC gM : z_G} : z_wf X gC gM 67 = .inr (1, [.ref (z_ad X 68), .int (gC 67 1), .ref (z_ad X 69)]) := rfl
theorem u_67_1 {X : z_X} {gC gM g2 : z_G} {v : Int32} (h : g2 = z_up gC 67 1 v) : va_up (z_wf X gC gM) 67 (.inr (1, [.ref (z_ad X 68), .int v, .ref (z_ad X 69)])) = z_wf X g2 gM := by
  subst h
  exact z_wf_upC (k := 67) (f := upd (gC 67) 1 v) (by decide)
theorem e_68 {X : z_X} {gC gM : z_G} : z_wf X gC gM 68 = .inl (z_cA X 0, 6, .inl (gC 68)) := rfl
theorem ua_68 {X : z_X} {gC gM g2 : z_G} {i v : Int32} (h : g2 = z_wr gC 68 i v) : va_up (z_wf X gC gM) 68 (.inl (z_cA X 0, 6, .inl (upd (gC 68) i.toNatClampNeg v))) = z_wf X g2 gM := by
  subst h
  exact z_wf_upC (k := 68) (f := upd (gC 68) i.toNatClampNeg v) (by decide)
theorem uc_68 {X : z_X} {gC gM g2 : z_G} {k0 : Nat} {sp dp n : Int32} (h : g2 = z_cp gC k0 68 sp dp n) : va_up (z_wf X gC gM) 68 (.inl (z_cA X 0, 6, .inl (va_cpy (gC k0) (gC 68) sp.toNatClampNeg dp.toNatClampNeg n.toNatClampNeg))) = z_wf X g2 gM := by
  subst h
  exact z_wf_upC (k := 68) (by decide)
theorem e_69 {X : z_X} {gC gM : z_G} : z_wf X gC gM 69 = .inl (z_cA X 0, 6, .inl (gC 69)) := rfl
theorem ua_69 {X : z_X} {gC gM g2 : z_G} {i v : Int32} (h : g2 = z_wr gC 69 i v) : va_up (z_wf X gC gM) 69 (.inl (z_cA X 0, 6, .inl (upd (gC 69) i.toNatClampNeg v))) = z_wf X g2 gM := by
  subst h
  exact z_wf_upC (k := 69) (f := upd (gC 69) i.toNatClampNeg v) (by decide)
theorem uc_69 {X : z_X} {gC gM g2 : z_G} {k0 : Nat} {sp dp n : Int32} (h : g2 = z_cp gC k0 69 sp dp n) : va_up (z_wf X gC gM) 69 (.inl (z_cA X 0, 6, .inl (va_cpy (gC k0) (gC 69) sp.toNatClampNeg dp.toNatClampNeg n.toNatClampNeg))) = z_wf X g2 gM := by
  subst h
  exact z_wf_upC (k := 69) (by decide)
theorem e_70 {X : z_X} {gC gM : z_G} : z_wf X gC gM 70 = .inl (z_cA X 1, 92, .inl (gC 70)) := rfl
theorem ua_70 {X : z_X} {gC gM g2 : z_G} {i v : Int32} (h : g2 = z_wr gC 70 i (vp_nar .char v)) : va_up (z_wf X gC gM) 70 (.inl (z_cA X 1, 92, .inl (upd (gC 70) i.toNatClampNeg (vp_nar .char v)))) = z_wf X g2 gM := by
  subst h
  exact z_wf_upC (k := 70) (f := upd (gC 70) i.toNatClampNeg (vp_nar .char v)) (by decide)
theorem e_71 {X : z_X} {gC gM : z_G} : z_wf X gC gM 71 = .inr (10, [.ref (z_ad X 72), .ref (z_ad X 73), .int (gM 0 2), .int (gM 0 3), .int (gM 0 4), .ref (z_ad X 74), .int (gM 0 6), .int (gM 0 7), .int (gM 0 8), .int (gM 0 9), .ref (z_ad X 75), .ref (z_ad X 76), .ref (z_ad X 77), .int (gM 0 13), .int (gM 0 14), .int (gM 0 15), .int (gM 0 16), .ref (z_ad X 78), .ref (z_ad X 79)]) := rfl
theorem u_71_2 {X : z_X} {gC gM g2 : z_G} {v : Int32} (h : g2 = z_up gM 0 2 v) : va_up (z_wf X gC gM) 71 (.inr (10, [.ref (z_ad X 72), .ref (z_ad X 73), .int v, .int (gM 0 3), .int (gM 0 4), .ref (z_ad X 74), .int (gM 0 6), .int (gM 0 7), .int (gM 0 8), .int (gM 0 9), .ref (z_ad X 75), .ref (z_ad X 76), .ref (z_ad X 77), .int (gM 0 13), .int (gM 0 14), .int (gM 0 15), .int (gM 0 16), .ref (z_ad X 78), .ref (z_ad X 79)])) = z_wf X gC g2 := by
  subst h
  exact z_wf_upM (k := 0) (f := upd (gM 0) 2 v)
theorem u_71_3 {X : z_X} {gC gM g2 : z_G} {v : Int32} (h : g2 = z_up gM 0 3 v) : va_up (z_wf X gC gM) 71 (.inr (10, [.ref (z_ad X 72), .ref (z_ad X 73), .int (gM 0 2), .int v, .int (gM 0 4), .ref (z_ad X 74), .int (gM 0 6), .int (gM 0 7), .int (gM 0 8), .int (gM 0 9), .ref (z_ad X 75), .ref (z_ad X 76), .ref (z_ad X 77), .int (gM 0 13), .int (gM 0 14), .int (gM 0 15), .int (gM 0 16), .ref (z_ad X 78), .ref (z_ad X 79)])) = z_wf X gC g2 := by
  subst h
  exact z_wf_upM (k := 0) (f := upd (gM 0) 3 v)
theorem u_71_4 {X : z_X} {gC gM g2 : z_G} {v : Int32} (h : g2 = z_up gM 0 4 v) : va_up (z_wf X gC gM) 71 (.inr (10, [.ref (z_ad X 72), .ref (z_ad X 73), .int (gM 0 2), .int (gM 0 3), .int v, .ref (z_ad X 74), .int (gM 0 6), .int (gM 0 7), .int (gM 0 8), .int (gM 0 9), .ref (z_ad X 75), .ref (z_ad X 76), .ref (z_ad X 77), .int (gM 0 13), .int (gM 0 14), .int (gM 0 15), .int (gM 0 16), .ref (z_ad X 78), .ref (z_ad X 79)])) = z_wf X gC g2 := by
  subst h
  exact z_wf_upM (k := 0) (f := upd (gM 0) 4 v)
theorem u_71_6 {X : z_X} {gC gM g2 : z_G} {v : Int32} (h : g2 = z_up gM 0 6 v) : va_up (z_wf X gC gM) 71 (.inr (10, [.ref (z_ad X 72), .ref (z_ad X 73), .int (gM 0 2), .int (gM 0 3), .int (gM 0 4), .ref (z_ad X 74), .int v, .int (gM 0 7), .int (gM 0 8), .int (gM 0 9), .ref (z_ad X 75), .ref (z_ad X 76), .ref (z_ad X 77), .int (gM 0 13), .int (gM 0 14), .int (gM 0 15), .int (gM 0 16), .ref (z_ad X 78), .ref (z_ad X 79)])) = z_wf X gC g2 := by
  subst h
  exact z_wf_upM (k := 0) (f := upd (gM 0) 6 v)
theorem u_71_7 {X : z_X} {gC gM g2 : z_G} {v : Int32} (h : g2 = z_up gM 0 7 v) : va_up (z_wf X gC gM) 71 (.inr (10, [.ref (z_ad X 72), .ref (z_ad X 73), .int (gM 0 2), .int (gM 0 3), .int (gM 0 4), .ref (z_ad X 74), .int (gM 0 6), .int v, .int (gM 0 8), .int (gM 0 9), .ref (z_ad X 75), .ref (z_ad X 76), .ref (z_ad X 77), .int (gM 0 13), .int (gM 0 14), .int (gM 0 15), .int (gM 0 16), .ref (z_ad X 78), .ref (z_ad X 79)])) = z_wf X gC g2 := by
  subst h
  exact z_wf_upM (k := 0) (f := upd (gM 0) 7 v)
theorem u_71_8 {X : z_X} {gC gM g2 : z_G} {v : Int32} (h : g2 = z_up gM 0 8 v) : va_up (z_wf X gC gM) 71 (.inr (10, [.ref (z_ad X 72), .ref (z_ad X 73), .int (gM 0 2), .int (gM 0 3), .int (gM 0 4), .ref (z_ad X 74), .int (gM 0 6), .int (gM 0 7), .int v, .int (gM 0 9), .ref (z_ad X 75), .ref (z_ad X 76), .ref (z_ad X 77), .int (gM 0 13), .int (gM 0 14), .int (gM 0 15), .int (gM 0 16), .ref (z_ad X 78), .ref (z_ad X 79)])) = z_wf X gC g2 := by
  subst h
  exact z_wf_upM (k := 0) (f := upd (gM 0) 8 v)
theorem u_71_9 {X : z_X} {gC gM g2 : z_G} {v : Int32} (h : g2 = z_up gM 0 9 v) : va_up (z_wf X gC gM) 71 (.inr (10, [.ref (z_ad X 72), .ref (z_ad X 73), .int (gM 0 2), .int (gM 0 3), .int (gM 0 4), .ref (z_ad X 74), .int (gM 0 6), .int (gM 0 7), .int (gM 0 8), .int v, .ref (z_ad X 75), .ref (z_ad X 76), .ref (z_ad X 77), .int (gM 0 13), .int (gM 0 14), .int (gM 0 15), .int (gM 0 16), .ref (z_ad X 78), .ref (z_ad X 79)])) = z_wf X gC g2 := by
  subst h
  exact z_wf_upM (k := 0) (f := upd (gM 0) 9 v)
theorem u_71_13 {X : z_X} {gC gM g2 : z_G} {v : Int32} (h : g2 = z_up gM 0 13 v) : va_up (z_wf X gC gM) 71 (.inr (10, [.ref (z_ad X 72), .ref (z_ad X 73), .int (gM 0 2), .int (gM 0 3), .int (gM 0 4), .ref (z_ad X 74), .int (gM 0 6), .int (gM 0 7), .int (gM 0 8), .int (gM 0 9), .ref (z_ad X 75), .ref (z_ad X 76), .ref (z_ad X 77), .int v, .int (gM 0 14), .int (gM 0 15), .int (gM 0 16), .ref (z_ad X 78), .ref (z_ad X 79)])) = z_wf X gC g2 := by
  subst h
  exact z_wf_upM (k := 0) (f := upd (gM 0) 13 v)
theorem u_71_14 {X : z_X} {gC gM g2 : z_G} {v : Int32} (h : g2 = z_up gM 0 14 v) : va_up (z_wf X gC gM) 71 (.inr (10, [.ref (z_ad X 72), .ref (z_ad X 73), .int (gM 0 2), .int (gM 0 3), .int (gM 0 4), .ref (z_ad X 74), .int (gM 0 6), .int (gM 0 7), .int (gM 0 8), .int (gM 0 9), .ref (z_ad X 75), .ref (z_ad X 76), .ref (z_ad X 77), .int (gM 0 13), .int v, .int (gM 0 15), .int (gM 0 16), .ref (z_ad X 78), .ref (z_ad X 79)])) = z_wf X gC g2 := by
  subst h
  exact z_wf_upM (k := 0) (f := upd (gM 0) 14 v)
theorem u_71_15 {X : z_X} {gC gM g2 : z_G} {v : Int32} (h : g2 = z_up gM 0 15 v) : va_up (z_wf X gC gM) 71 (.inr (10, [.ref (z_ad X 72), .ref (z_ad X 73), .int (gM 0 2), .int (gM 0 3), .int (gM 0 4), .ref (z_ad X 74), .int (gM 0 6), .int (gM 0 7), .int (gM 0 8), .int (gM 0 9), .ref (z_ad X 75), .ref (z_ad X 76), .ref (z_ad X 77), .int (gM 0 13), .int (gM 0 14), .int v, .int (gM 0 16), .ref (z_ad X 78), .ref (z_ad X 79)])) = z_wf X gC g2 := by
  subst h
  exact z_wf_upM (k := 0) (f := upd (gM 0) 15 v)
theorem u_71_16 {X : z_X} {gC gM g2 : z_G} {v : Int32} (h : g2 = z_up gM 0 16 v) : va_up (z_wf X gC gM) 71 (.inr (10, [.ref (z_ad X 72), .ref (z_ad X 73), .int (gM 0 2), .int (gM 0 3), .int (gM 0 4), .ref (z_ad X 74), .int (gM 0 6), .int (gM 0 7), .int (gM 0 8), .int (gM 0 9), .ref (z_ad X 75), .ref (z_ad X 76), .ref (z_ad X 77), .int (gM 0 13), .int (gM 0 14), .int (gM 0 15), .int v, .ref (z_ad X 78), .ref (z_ad X 79)])) = z_wf X gC g2 := by
  subst h
  exact z_wf_upM (k := 0) (f := upd (gM 0) 16 v)
theorem e_72 {X : z_X} {gC gM : z_G} : z_wf X gC gM 72 = .inl (z_cA X 0, 120, .inl (gM 1)) := rfl
theorem ua_72 {X : z_X} {gC gM g2 : z_G} {i v : Int32} (h : g2 = z_wr gM 1 i v) : va_up (z_wf X gC gM) 72 (.inl (z_cA X 0, 120, .inl (upd (gM 1) i.toNatClampNeg v))) = z_wf X gC g2 := by
  subst h
  exact z_wf_upM (k := 1) (f := upd (gM 1) i.toNatClampNeg v)
theorem uc_72 {X : z_X} {gC gM g2 : z_G} {k0 : Nat} {sp dp n : Int32} (h : g2 = z_cp gM k0 1 sp dp n) : va_up (z_wf X gC gM) 72 (.inl (z_cA X 0, 120, .inl (va_cpy (gM k0) (gM 1) sp.toNatClampNeg dp.toNatClampNeg n.toNatClampNeg))) = z_wf X gC g2 := by
  subst h
  exact z_wf_upM (k := 1)
theorem e_73 {X : z_X} {gC gM : z_G} : z_wf X gC gM 73 = .inl (z_cA X 0, 312, .inl (gM 2)) := rfl
theorem ua_73 {X : z_X} {gC gM g2 : z_G} {i v : Int32} (h : g2 = z_wr gM 2 i v) : va_up (z_wf X gC gM) 73 (.inl (z_cA X 0, 312, .inl (upd (gM 2) i.toNatClampNeg v))) = z_wf X gC g2 := by
  subst h
  exact z_wf_upM (k := 2) (f := upd (gM 2) i.toNatClampNeg v)
theorem uc_73 {X : z_X} {gC gM g2 : z_G} {k0 : Nat} {sp dp n : Int32} (h : g2 = z_cp gM k0 2 sp dp n) : va_up (z_wf X gC gM) 73 (.inl (z_cA X 0, 312, .inl (va_cpy (gM k0) (gM 2) sp.toNatClampNeg dp.toNatClampNeg n.toNatClampNeg))) = z_wf X gC g2 := by
  subst h
  exact z_wf_upM (k := 2)
theorem e_74 {X : z_X} {gC gM : z_G} : z_wf X gC gM 74 = .inl (z_cA X 2, 200, .inl (gM 3)) := rfl
theorem ua_74 {X : z_X} {gC gM g2 : z_G} {i v : Int32} (h : g2 = z_wr gM 3 i (vp_nar .byte v)) : va_up (z_wf X gC gM) 74 (.inl (z_cA X 2, 200, .inl (upd (gM 3) i.toNatClampNeg (vp_nar .byte v)))) = z_wf X gC g2 := by
  subst h
  exact z_wf_upM (k := 3) (f := upd (gM 3) i.toNatClampNeg (vp_nar .byte v))
theorem e_75 {X : z_X} {gC gM : z_G} : z_wf X gC gM 75 = .inl (z_cA X 0, 6, .inl (gM 4)) := rfl
theorem ua_75 {X : z_X} {gC gM g2 : z_G} {i v : Int32} (h : g2 = z_wr gM 4 i v) : va_up (z_wf X gC gM) 75 (.inl (z_cA X 0, 6, .inl (upd (gM 4) i.toNatClampNeg v))) = z_wf X gC g2 := by
  subst h
  exact z_wf_upM (k := 4) (f := upd (gM 4) i.toNatClampNeg v)
theorem uc_75 {X : z_X} {gC gM g2 : z_G} {k0 : Nat} {sp dp n : Int32} (h : g2 = z_cp gM k0 4 sp dp n) : va_up (z_wf X gC gM) 75 (.inl (z_cA X 0, 6, .inl (va_cpy (gM k0) (gM 4) sp.toNatClampNeg dp.toNatClampNeg n.toNatClampNeg))) = z_wf X gC g2 := by
  subst h
  exact z_wf_upM (k := 4)
theorem e_76 {X : z_X} {gC gM : z_G} : z_wf X gC gM 76 = .inl (z_cA X 0, 6, .inl (gM 5)) := rfl
theorem ua_76 {X : z_X} {gC gM g2 : z_G} {i v : Int32} (h : g2 = z_wr gM 5 i v) : va_up (z_wf X gC gM) 76 (.inl (z_cA X 0, 6, .inl (upd (gM 5) i.toNatClampNeg v))) = z_wf X gC g2 := by
  subst h
  exact z_wf_upM (k := 5) (f := upd (gM 5) i.toNatClampNeg v)
theorem uc_76 {X : z_X} {gC gM g2 : z_G} {k0 : Nat} {sp dp n : Int32} (h : g2 = z_cp gM k0 5 sp dp n) : va_up (z_wf X gC gM) 76 (.inl (z_cA X 0, 6, .inl (va_cpy (gM k0) (gM 5) sp.toNatClampNeg dp.toNatClampNeg n.toNatClampNeg))) = z_wf X gC g2 := by
  subst h
  exact z_wf_upM (k := 5)
theorem e_77 {X : z_X} {gC gM : z_G} : z_wf X gC gM 77 = .inl (z_cA X 0, 6, .inl (gM 6)) := rfl
theorem ua_77 {X : z_X} {gC gM g2 : z_G} {i v : Int32} (h : g2 = z_wr gM 6 i v) : va_up (z_wf X gC gM) 77 (.inl (z_cA X 0, 6, .inl (upd (gM 6) i.toNatClampNeg v))) = z_wf X gC g2 := by
  subst h
  exact z_wf_upM (k := 6) (f := upd (gM 6) i.toNatClampNeg v)
theorem uc_77 {X : z_X} {gC gM g2 : z_G} {k0 : Nat} {sp dp n : Int32} (h : g2 = z_cp gM k0 6 sp dp n) : va_up (z_wf X gC gM) 77 (.inl (z_cA X 0, 6, .inl (va_cpy (gM k0) (gM 6) sp.toNatClampNeg dp.toNatClampNeg n.toNatClampNeg))) = z_wf X gC g2 := by
  subst h
  exact z_wf_upM (k := 6)
theorem e_78 {X : z_X} {gC gM : z_G} : z_wf X gC gM 78 = .inl (z_cA X 0, 6, .inl (gM 7)) := rfl
theorem ua_78 {X : z_X} {gC gM g2 : z_G} {i v : Int32} (h : g2 = z_wr gM 7 i v) : va_up (z_wf X gC gM) 78 (.inl (z_cA X 0, 6, .inl (upd (gM 7) i.toNatClampNeg v))) = z_wf X gC g2 := by
  subst h
  exact z_wf_upM (k := 7) (f := upd (gM 7) i.toNatClampNeg v)
theorem uc_78 {X : z_X} {gC gM g2 : z_G} {k0 : Nat} {sp dp n : Int32} (h : g2 = z_cp gM k0 7 sp dp n) : va_up (z_wf X gC gM) 78 (.inl (z_cA X 0, 6, .inl (va_cpy (gM k0) (gM 7) sp.toNatClampNeg dp.toNatClampNeg n.toNatClampNeg))) = z_wf X gC g2 := by
  subst h
  exact z_wf_upM (k := 7)
theorem e_79 {X : z_X} {gC gM : z_G} : z_wf X gC gM 79 = .inl (z_cA X 0, 6, .inl (gM 8)) := rfl
theorem ua_79 {X : z_X} {gC gM g2 : z_G} {i v : Int32} (h : g2 = z_wr gM 8 i v) : va_up (z_wf X gC gM) 79 (.inl (z_cA X 0, 6, .inl (upd (gM 8) i.toNatClampNeg v))) = z_wf X gC g2 := by
  subst h
  exact z_wf_upM (k := 8) (f := upd (gM 8) i.toNatClampNeg v)
theorem uc_79 {X : z_X} {gC gM g2 : z_G} {k0 : Nat} {sp dp n : Int32} (h : g2 = z_cp gM k0 8 sp dp n) : va_up (z_wf X gC gM) 79 (.inl (z_cA X 0, 6, .inl (va_cpy (gM k0) (gM 8) sp.toNatClampNeg dp.toNatClampNeg n.toNatClampNeg))) = z_wf X gC g2 := by
  subst h
  exact z_wf_upM (k := 8)
theorem e_col {X : z_X} {gC gM : z_G} {c : Nat} (hc : c < 13) : z_wf X gC gM (3 * c) = .inr (0, [.ref (z_ad X (3 * c + 1)), .ref (z_ad X (3 * c + 2)), .int (gC (3 * c) 2), .int (gC (3 * c) 3)]) := by
  have h1 : 3 * c < 71 := by omega
  have h2 : 3 * c < 39 := by omega
  have h3 : 3 * c % 3 = 0 := by omega
  simp [z_wf, z_eC, z_col, h1, h2, h3]
theorem e_spot {X : z_X} {gC gM : z_G} {c : Nat} (hc : c < 13) : z_wf X gC gM (3 * c + 1) = .inl (z_cA X 0, 6, .inl (gC (3 * c + 1))) := by
  have h1 : 3 * c + 1 < 71 := by omega
  have h2 : 3 * c + 1 < 39 := by omega
  have h3 : ¬ (3 * c + 1) % 3 = 0 := by omega
  simp [z_wf, z_eC, z_ia, h1, h2, h3]
theorem e_right {X : z_X} {gC gM : z_G} {c : Nat} (hc : c < 13) : z_wf X gC gM (3 * c + 2) = .inl (z_cA X 0, 6, .inl (gC (3 * c + 2))) := by
  have h1 : 3 * c + 2 < 71 := by omega
  have h2 : 3 * c + 2 < 39 := by omega
  have h3 : ¬ (3 * c + 2) % 3 = 0 := by omega
  simp [z_wf, z_eC, z_ia, h1, h2, h3]
theorem z_eC_col {X : z_X} {c : Nat} {f : Nat → Int32} (hc : c < 13) : z_eC X (3 * c) f = .inr (0, [.ref (z_ad X (3 * c + 1)), .ref (z_ad X (3 * c + 2)), .int (f 2), .int (f 3)]) := by
  have h2 : 3 * c < 39 := by omega
  have h3 : 3 * c % 3 = 0 := by omega
  simp [z_eC, z_col, h2, h3]
theorem z_eC_spot {X : z_X} {c : Nat} {f : Nat → Int32} (hc : c < 13) : z_eC X (3 * c + 1) f = .inl (z_cA X 0, 6, .inl f) := by
  have h2 : 3 * c + 1 < 39 := by omega
  have h3 : ¬ (3 * c + 1) % 3 = 0 := by omega
  simp [z_eC, z_ia, h2, h3]
theorem z_eC_right {X : z_X} {c : Nat} {f : Nat → Int32} (hc : c < 13) : z_eC X (3 * c + 2) f = .inl (z_cA X 0, 6, .inl f) := by
  have h2 : 3 * c + 2 < 39 := by omega
  have h3 : ¬ (3 * c + 2) % 3 = 0 := by omega
  simp [z_eC, z_ia, h2, h3]
theorem u_col_2 {X : z_X} {gC gM g2 : z_G} {c : Nat} {v : Int32} (hc : c < 13) (h : g2 = z_up gC (3 * c) 2 v) : va_up (z_wf X gC gM) (3 * c) (.inr (0, [.ref (z_ad X (3 * c + 1)), .ref (z_ad X (3 * c + 2)), .int v, .int (gC (3 * c) 3)])) = z_wf X g2 gM := by
  subst h
  have e := z_wf_upC (X := X) (gC := gC) (gM := gM) (k := 3 * c) (f := upd (gC (3 * c)) 2 v) (by omega)
  rw [z_eC_col hc] at e
  exact e
theorem u_col_3 {X : z_X} {gC gM g2 : z_G} {c : Nat} {v : Int32} (hc : c < 13) (h : g2 = z_up gC (3 * c) 3 v) : va_up (z_wf X gC gM) (3 * c) (.inr (0, [.ref (z_ad X (3 * c + 1)), .ref (z_ad X (3 * c + 2)), .int (gC (3 * c) 2), .int v])) = z_wf X g2 gM := by
  subst h
  have e := z_wf_upC (X := X) (gC := gC) (gM := gM) (k := 3 * c) (f := upd (gC (3 * c)) 3 v) (by omega)
  rw [z_eC_col hc] at e
  exact e
theorem ua_spot {X : z_X} {gC gM g2 : z_G} {c : Nat} {i v : Int32} (hc : c < 13) (h : g2 = z_wr gC (3 * c + 1) i v) : va_up (z_wf X gC gM) (3 * c + 1) (.inl (z_cA X 0, 6, .inl (upd (gC (3 * c + 1)) i.toNatClampNeg v))) = z_wf X g2 gM := by
  subst h
  have e := z_wf_upC (X := X) (gC := gC) (gM := gM) (k := 3 * c + 1) (f := upd (gC (3 * c + 1)) i.toNatClampNeg v) (by omega)
  rw [z_eC_spot hc] at e
  exact e
theorem ua_right {X : z_X} {gC gM g2 : z_G} {c : Nat} {i v : Int32} (hc : c < 13) (h : g2 = z_wr gC (3 * c + 2) i v) : va_up (z_wf X gC gM) (3 * c + 2) (.inl (z_cA X 0, 6, .inl (upd (gC (3 * c + 2)) i.toNatClampNeg v))) = z_wf X g2 gM := by
  subst h
  have e := z_wf_upC (X := X) (gC := gC) (gM := gM) (k := 3 * c + 2) (f := upd (gC (3 * c + 2)) i.toNatClampNeg v) (by omega)
  rw [z_eC_right hc] at e
  exact e
theorem uc_spot {X : z_X} {gC gM g2 : z_G} {c k0 : Nat} {sp dp n : Int32} (hc : c < 13) (h : g2 = z_cp gC k0 (3 * c + 1) sp dp n) : va_up (z_wf X gC gM) (3 * c + 1) (.inl (z_cA X 0, 6, .inl (va_cpy (gC k0) (gC (3 * c + 1)) sp.toNatClampNeg dp.toNatClampNeg n.toNatClampNeg))) = z_wf X g2 gM := by
  subst h
  have e := z_wf_upC (X := X) (gC := gC) (gM := gM) (k := 3 * c + 1) (f := va_cpy (gC k0) (gC (3 * c + 1)) sp.toNatClampNeg dp.toNatClampNeg n.toNatClampNeg) (by omega)
  rw [z_eC_spot hc] at e
  exact e
theorem uc_right {X : z_X} {gC gM g2 : z_G} {c k0 : Nat} {sp dp n : Int32} (hc : c < 13) (h : g2 = z_cp gC k0 (3 * c + 2) sp dp n) : va_up (z_wf X gC gM) (3 * c + 2) (.inl (z_cA X 0, 6, .inl (va_cpy (gC k0) (gC (3 * c + 2)) sp.toNatClampNeg dp.toNatClampNeg n.toNatClampNeg))) = z_wf X g2 gM := by
  subst h
  have e := z_wf_upC (X := X) (gC := gC) (gM := gM) (k := 3 * c + 2) (f := va_cpy (gC k0) (gC (3 * c + 2)) sp.toNatClampNeg dp.toNatClampNeg n.toNatClampNeg) (by omega)
  rw [z_eC_right hc] at e
  exact e
