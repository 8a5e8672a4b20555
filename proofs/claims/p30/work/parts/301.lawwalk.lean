def s_law_b987 (xs : Nat → Int32) (L : Nat) (k18 : Int32 → z_G → z_G → Option (Int32)) (x3 : Int32) (g : z_G) (gm : z_G) : Option (Int32) := (k18 (x3 + 6) g gm)
def s_law_b443 (xs : Nat → Int32) (L : Nat) (k18 : Int32 → z_G → z_G → Option (Int32)) (x3 : Int32) (s2 : Int32) (s1 : Int32) (g : z_G) (gm : z_G) : Option (Int32) := (Option.bind (s_Mod_tie s1 s2 gm) fun r171q => (s_law_b987 xs L k18 x3 g r171q.2))
def s_law_b420 (xs : Nat → Int32) (L : Nat) (k18 : Int32 → z_G → z_G → Option (Int32)) (x3 : Int32) (s2 : Int32) (s1 : Int32) (g : z_G) (gm : z_G) : Option (Int32) := (Option.bind (s_Top_tie s1 s2 g) fun r172q => (z_ck (z_inb (x3 + 1) L) (z_ck (z_inb (x3 + 2) L) (if (xs (Int32.toNatClampNeg (x3 + 2))) = 0 then (s_law_b443 xs L k18 x3 0 (xs (Int32.toNatClampNeg (x3 + 1))) r172q.2 gm) else (s_law_b443 xs L k18 x3 1 (xs (Int32.toNatClampNeg (x3 + 1))) r172q.2 gm)))))
def s_law_L18 (xs : Nat → Int32) (L : Nat) : Nat → Int32 → z_G → z_G → Option (Int32)
  | 0, _, _, _ => none
  | n + 1, x3, g, gm => (if ((nI L) - 6) < x3 then (some 1) else (z_ck (z_inb x3 L) (if ((xs (Int32.toNatClampNeg x3)) &&& 31) = 0 then (z_ck (z_inb (x3 + 1) L) (Option.bind (s_Top_write (xs (Int32.toNatClampNeg (x3 + 1))) g) fun r180q => (z_ck (z_inb (x3 + 1) L) (Option.bind (s_Mod_write (xs (Int32.toNatClampNeg (x3 + 1))) gm) fun r182q => (s_law_b987 xs L (s_law_L18 xs L n) x3 r180q.2 r182q.2))))) else (if ((xs (Int32.toNatClampNeg x3)) &&& 31) = 1 then (s_law_b987 xs L (s_law_L18 xs L n) x3 (s_Top_wipe g).2 (s_Mod_wipe gm).2) else (if ((xs (Int32.toNatClampNeg x3)) &&& 31) = 2 then (Option.bind (s_Top_fault g) fun r185q => (Option.bind (s_Mod_fault gm) fun r186q => (s_law_b987 xs L (s_law_L18 xs L n) x3 r185q.2 r186q.2))) else (if ((xs (Int32.toNatClampNeg x3)) &&& 31) = 3 then (Option.bind (s_Top_lay g) fun r188q => (Option.bind (s_Mod_lay gm) fun r189q => (s_law_b987 xs L (s_law_L18 xs L n) x3 r188q.2 r189q.2))) else (if ((xs (Int32.toNatClampNeg x3)) &&& 31) = 4 then (z_ck (z_inb (x3 + 1) L) (z_ck (z_inb (x3 + 2) L) (Option.bind (s_Top_man (xs (Int32.toNatClampNeg (x3 + 1))) (xs (Int32.toNatClampNeg (x3 + 2))) g) fun r193q => (z_ck (z_inb (x3 + 1) L) (z_ck (z_inb (x3 + 2) L) (Option.bind (s_Mod_man (xs (Int32.toNatClampNeg (x3 + 1))) (xs (Int32.toNatClampNeg (x3 + 2))) gm) fun r196q => (s_law_b987 xs L (s_law_L18 xs L n) x3 g gm))))))) else (if ((xs (Int32.toNatClampNeg x3)) &&& 31) = 5 then (z_ck (z_inb (x3 + 1) L) (z_ck (z_inb (x3 + 2) L) (Option.bind (s_Top_home (xs (Int32.toNatClampNeg (x3 + 1))) (xs (Int32.toNatClampNeg (x3 + 2))) g) fun r200q => (z_ck (z_inb (x3 + 1) L) (z_ck (z_inb (x3 + 2) L) (Option.bind (s_Mod_home (xs (Int32.toNatClampNeg (x3 + 1))) (xs (Int32.toNatClampNeg (x3 + 2))) gm) fun r203q => (s_law_b987 xs L (s_law_L18 xs L n) x3 g gm))))))) else (if ((xs (Int32.toNatClampNeg x3)) &&& 31) = 6 then (z_ck (z_inb (x3 + 1) L) (Option.bind (s_Top_told (xs (Int32.toNatClampNeg (x3 + 1))) g) fun r206q => (z_ck (z_inb (x3 + 1) L) (Option.bind (s_Mod_told (xs (Int32.toNatClampNeg (x3 + 1))) gm) fun r208q => (s_law_b987 xs L (s_law_L18 xs L n) x3 g gm))))) else (if ((xs (Int32.toNatClampNeg x3)) &&& 31) = 7 then (z_ck (z_inb (x3 + 1) L) (z_ck (z_inb (x3 + 2) L) (z_ck (z_inb (x3 + 3) L) (z_ck (z_inb (x3 + 4) L) (z_ck (z_inb (x3 + 1) L) (z_ck (z_inb (x3 + 2) L) (z_ck (z_inb (x3 + 3) L) (z_ck (z_inb (x3 + 4) L) (s_law_b987 xs L (s_law_L18 xs L n) x3 g gm))))))))) else (if ((xs (Int32.toNatClampNeg x3)) &&& 31) = 8 then (z_ck (z_inb (x3 + 1) L) (z_ck (z_inb (x3 + 2) L) (Option.bind (s_Top_order (xs (Int32.toNatClampNeg (x3 + 1))) (xs (Int32.toNatClampNeg (x3 + 2))) g) fun r221q => (z_ck (z_inb (x3 + 1) L) (z_ck (z_inb (x3 + 2) L) (Option.bind (s_Mod_order (xs (Int32.toNatClampNeg (x3 + 1))) (xs (Int32.toNatClampNeg (x3 + 2))) gm) fun r224q => (s_law_b987 xs L (s_law_L18 xs L n) x3 r221q.2 r224q.2))))))) else (if ((xs (Int32.toNatClampNeg x3)) &&& 31) = 9 then (z_ck (z_inb (x3 + 1) L) (z_ck (z_inb (x3 + 2) L) (if (xs (Int32.toNatClampNeg (x3 + 2))) = 0 then (s_law_b420 xs L (s_law_L18 xs L n) x3 0 (xs (Int32.toNatClampNeg (x3 + 1))) g gm) else (s_law_b420 xs L (s_law_L18 xs L n) x3 1 (xs (Int32.toNatClampNeg (x3 + 1))) g gm)))) else (if ((xs (Int32.toNatClampNeg x3)) &&& 31) = 10 then (z_ck (z_inb (x3 + 1) L) (z_ck (z_inb (x3 + 2) L) (Option.bind (s_Top_swap (xs (Int32.toNatClampNeg (x3 + 1))) (xs (Int32.toNatClampNeg (x3 + 2))) g) fun r232q => (z_ck (z_inb (x3 + 1) L) (z_ck (z_inb (x3 + 2) L) (Option.bind (s_Mod_swap (xs (Int32.toNatClampNeg (x3 + 1))) (xs (Int32.toNatClampNeg (x3 + 2))) gm) fun r235q => (s_law_b987 xs L (s_law_L18 xs L n) x3 r232q.2 r235q.2))))))) else (if ((xs (Int32.toNatClampNeg x3)) &&& 31) = 11 then (Option.bind (s_Top_undo g) fun r237q => (Option.bind (s_Mod_undo gm) fun r238q => (s_law_b987 xs L (s_law_L18 xs L n) x3 r237q.2 r238q.2))) else (if ((xs (Int32.toNatClampNeg x3)) &&& 31) = 12 then (z_ck (z_inb (x3 + 1) L) (z_ck (z_inb (x3 + 2) L) (Option.bind (s_Top_tell (xs (Int32.toNatClampNeg (x3 + 1))) (xs (Int32.toNatClampNeg (x3 + 2))) g) fun r242q => (z_ck (z_inb (x3 + 1) L) (z_ck (z_inb (x3 + 2) L) (Option.bind (s_Mod_tell (xs (Int32.toNatClampNeg (x3 + 1))) (xs (Int32.toNatClampNeg (x3 + 2))) gm) fun r245q => (s_law_b987 xs L (s_law_L18 xs L n) x3 r242q.2 r245q.2))))))) else (if ((xs (Int32.toNatClampNeg x3)) &&& 31) = 13 then (s_law_b987 xs L (s_law_L18 xs L n) x3 (s_Top_noRow g).2 (s_Mod_noRow gm).2) else (if ((xs (Int32.toNatClampNeg x3)) &&& 31) = 14 then (z_ck (z_inb (x3 + 1) L) (z_ck (z_inb (x3 + 2) L) (z_ck (z_inb (x3 + 3) L) (Option.bind (s_Top_behind (xs (Int32.toNatClampNeg (x3 + 1))) (xs (Int32.toNatClampNeg (x3 + 2))) (xs (Int32.toNatClampNeg (x3 + 3))) g) fun r251q => (z_ck (z_inb (x3 + 1) L) (z_ck (z_inb (x3 + 2) L) (z_ck (z_inb (x3 + 3) L) (Option.bind (s_Mod_behind (xs (Int32.toNatClampNeg (x3 + 1))) (xs (Int32.toNatClampNeg (x3 + 2))) (xs (Int32.toNatClampNeg (x3 + 3))) gm) fun r255q => (s_law_b987 xs L (s_law_L18 xs L n) x3 g r255q.2))))))))) else (if ((xs (Int32.toNatClampNeg x3)) &&& 31) = 15 then (Option.bind (s_Top_strayed g) fun r257q => (Option.bind (s_Mod_strayed gm) fun r258q => (s_law_b987 xs L (s_law_L18 xs L n) x3 r257q.2 r258q.2))) else (if ((xs (Int32.toNatClampNeg x3)) &&& 31) = 16 then (z_ck (z_inb (x3 + 1) L) (z_ck (z_inb (x3 + 2) L) (z_ck (z_inb (x3 + 3) L) (z_ck (z_inb (x3 + 4) L) (Option.bind (s_Top_bring (xs (Int32.toNatClampNeg (x3 + 1))) (xs (Int32.toNatClampNeg (x3 + 2))) (xs (Int32.toNatClampNeg (x3 + 3))) (xs (Int32.toNatClampNeg (x3 + 4))) g) fun r264q => (z_ck (z_inb (x3 + 1) L) (z_ck (z_inb (x3 + 2) L) (z_ck (z_inb (x3 + 3) L) (z_ck (z_inb (x3 + 4) L) (Option.bind (s_Mod_bring (xs (Int32.toNatClampNeg (x3 + 1))) (xs (Int32.toNatClampNeg (x3 + 2))) (xs (Int32.toNatClampNeg (x3 + 3))) (xs (Int32.toNatClampNeg (x3 + 4))) gm) fun r269q => (s_law_b987 xs L (s_law_L18 xs L n) x3 r264q.2 r269q.2))))))))))) else (if ((xs (Int32.toNatClampNeg x3)) &&& 31) = 17 then (z_ck (z_inb (x3 + 1) L) (Option.bind (s_Top_pairs (xs (Int32.toNatClampNeg (x3 + 1))) g) fun r272q => (z_ck (z_inb (x3 + 1) L) (Option.bind (s_Mod_pairs (xs (Int32.toNatClampNeg (x3 + 1))) gm) fun r274q => (s_law_b987 xs L (s_law_L18 xs L n) x3 r272q.2 r274q.2))))) else (if ((xs (Int32.toNatClampNeg x3)) &&& 31) = 18 then (z_ck (z_inb (x3 + 1) L) (Option.bind (s_Top_homeward (xs (Int32.toNatClampNeg (x3 + 1))) g) fun r277q => (z_ck (z_inb (x3 + 1) L) (Option.bind (s_Mod_homeward (xs (Int32.toNatClampNeg (x3 + 1))) gm) fun r279q => (s_law_b987 xs L (s_law_L18 xs L n) x3 g r279q.2))))) else (if ((xs (Int32.toNatClampNeg x3)) &&& 31) = 19 then (z_ck (z_inb (x3 + 1) L) (z_ck (z_inb (x3 + 2) L) (z_ck (z_inb (x3 + 3) L) (Option.bind (s_Top_seen (xs (Int32.toNatClampNeg (x3 + 1))) (xs (Int32.toNatClampNeg (x3 + 2))) (xs (Int32.toNatClampNeg (x3 + 3))) g) fun r284q => (z_ck (z_inb (x3 + 1) L) (z_ck (z_inb (x3 + 2) L) (z_ck (z_inb (x3 + 3) L) (Option.bind (s_Mod_seen (xs (Int32.toNatClampNeg (x3 + 1))) (xs (Int32.toNatClampNeg (x3 + 2))) (xs (Int32.toNatClampNeg (x3 + 3))) gm) fun r288q => (s_law_b987 xs L (s_law_L18 xs L n) x3 r284q.2 r288q.2))))))))) else (if ((xs (Int32.toNatClampNeg x3)) &&& 31) = 20 then (s_law_b987 xs L (s_law_L18 xs L n) x3 (s_Top_forget g).2 (s_Mod_forget gm).2) else (if ((xs (Int32.toNatClampNeg x3)) &&& 31) = 21 then (z_ck (z_inb (x3 + 1) L) (z_ck (z_inb (x3 + 2) L) (Option.bind (s_Top_villages (xs (Int32.toNatClampNeg (x3 + 1))) (xs (Int32.toNatClampNeg (x3 + 2))) g) fun r293q => (z_ck (z_inb (x3 + 1) L) (z_ck (z_inb (x3 + 2) L) (Option.bind (s_Mod_villages (xs (Int32.toNatClampNeg (x3 + 1))) (xs (Int32.toNatClampNeg (x3 + 2))) gm) fun r296q => (s_law_b987 xs L (s_law_L18 xs L n) x3 g r296q.2))))))) else (if ((xs (Int32.toNatClampNeg x3)) &&& 31) = 22 then (z_ck (z_inb (x3 + 1) L) (Option.bind (s_Top_strays (xs (Int32.toNatClampNeg (x3 + 1))) g) fun r299q => (z_ck (z_inb (x3 + 1) L) (Option.bind (s_Mod_strays (xs (Int32.toNatClampNeg (x3 + 1))) gm) fun r301q => (s_law_b987 xs L (s_law_L18 xs L n) x3 g r301q.2))))) else (if ((xs (Int32.toNatClampNeg x3)) &&& 31) = 23 then (z_ck (z_inb (x3 + 1) L) (Option.bind (s_Top_lean (xs (Int32.toNatClampNeg (x3 + 1))) g) fun r304q => (z_ck (z_inb (x3 + 1) L) (Option.bind (s_Mod_lean (xs (Int32.toNatClampNeg (x3 + 1))) gm) fun r306q => (s_law_b987 xs L (s_law_L18 xs L n) x3 g gm))))) else (if ((xs (Int32.toNatClampNeg x3)) &&& 31) = 24 then (z_ck (z_inb (x3 + 1) L) (z_ck (z_inb (x3 + 2) L) (z_ck (z_inb (x3 + 3) L) (z_ck (z_inb (x3 + 4) L) (z_ck (z_inb (x3 + 5) L) (Option.bind (s_Top_storms (xs (Int32.toNatClampNeg (x3 + 1))) (xs (Int32.toNatClampNeg (x3 + 2))) (xs (Int32.toNatClampNeg (x3 + 3))) (xs (Int32.toNatClampNeg (x3 + 4))) (xs (Int32.toNatClampNeg (x3 + 5))) g) fun r313q => (z_ck (z_inb (x3 + 1) L) (z_ck (z_inb (x3 + 2) L) (z_ck (z_inb (x3 + 3) L) (z_ck (z_inb (x3 + 4) L) (z_ck (z_inb (x3 + 5) L) (Option.bind (s_Mod_storms (xs (Int32.toNatClampNeg (x3 + 1))) (xs (Int32.toNatClampNeg (x3 + 2))) (xs (Int32.toNatClampNeg (x3 + 3))) (xs (Int32.toNatClampNeg (x3 + 4))) (xs (Int32.toNatClampNeg (x3 + 5))) gm) fun r319q => (s_law_b987 xs L (s_law_L18 xs L n) x3 g r319q.2))))))))))))) else (if ((xs (Int32.toNatClampNeg x3)) &&& 31) = 25 then (z_ck (z_inb (x3 + 1) L) (z_ck (z_inb (x3 + 2) L) (z_ck (z_inb (x3 + 3) L) (Option.bind (s_Top_march (xs (Int32.toNatClampNeg (x3 + 1))) (xs (Int32.toNatClampNeg (x3 + 2))) (xs (Int32.toNatClampNeg (x3 + 3))) g) fun r324q => (z_ck (z_inb (x3 + 1) L) (z_ck (z_inb (x3 + 2) L) (z_ck (z_inb (x3 + 3) L) (Option.bind (s_Mod_march (xs (Int32.toNatClampNeg (x3 + 1))) (xs (Int32.toNatClampNeg (x3 + 2))) (xs (Int32.toNatClampNeg (x3 + 3))) gm) fun r328q => (s_law_b987 xs L (s_law_L18 xs L n) x3 r324q.2 r328q.2))))))))) else (if ((xs (Int32.toNatClampNeg x3)) &&& 31) = 26 then (Option.bind (s_Top_keep g) fun r330q => (Option.bind (s_Mod_keep gm) fun r331q => (s_law_b987 xs L (s_law_L18 xs L n) x3 r330q.2 r331q.2))) else (if ((xs (Int32.toNatClampNeg x3)) &&& 31) = 27 then (Option.bind (s_Top_back g) fun r333q => (Option.bind (s_Mod_back gm) fun r334q => (s_law_b987 xs L (s_law_L18 xs L n) x3 r333q.2 r334q.2))) else (if ((xs (Int32.toNatClampNeg x3)) &&& 31) = 28 then (z_ck (z_inb (x3 + 1) L) (Option.bind (s_Top_count (xs (Int32.toNatClampNeg (x3 + 1))) g) fun r337q => (z_ck (z_inb (x3 + 1) L) (Option.bind (s_Mod_count (xs (Int32.toNatClampNeg (x3 + 1))) gm) fun r339q => (if r337q = r339q then (s_law_b987 xs L (s_law_L18 xs L n) x3 g gm) else (some 0)))))) else (s_law_b987 xs L (s_law_L18 xs L n) x3 g gm))))))))))))))))))))))))))))))))
set_option maxHeartbeats 1000000 in
set_option maxRecDepth 20000 in
theorem b_law_b987 {X : z_X} {E : z_ET} {xs : Nat → Int32} {L b : Nat} (hE : z_EV X E cL_law 4 RL 16 424 80) (hX : z_SX X E b L xs) {r : Int32} (hret : ∀ (pc : Nat) (lv : List (Nat × Value)) (g gm : z_G), decode cL_law pc = .ok (.ireturn, 1) → z_V X E 4 g gm pc lv [.int r]) (k18 : Int32 → z_G → z_G → Option (Int32)) (hk18 : ∀ (x3 : Int32) (g : z_G) (gm : z_G), k18 x3 g gm = some r → z_V X E 4 g gm 18 [(0, .ref b), (1, .ref (z_ad X 39)), (2, .ref (z_ad X 71)), (3, .int x3)] []) (x3 : Int32) (g : z_G) (gm : z_G)  (h : s_law_b987 xs L k18 x3 g gm = some r) : z_V X E 4 g gm 987 [(0, .ref b), (1, .ref (z_ad X 39)), (2, .ref (z_ad X 71)), (3, .int x3)] [] := by
  unfold s_law_b987 at h
  refine z_iinc (v := x3 + 6) hE 3 [(3, .int (x3 + 6)), (0, .ref b), (1, .ref (z_ad X 39)), (2, .ref (z_ad X 71))] dL_law_987 rfl rfl (by decide) rfl ?_
  refine z_goto hE 18 dL_law_990 rfl ?_
  refine z_sub [(0, .ref b), (1, .ref (z_ad X 39)), (2, .ref (z_ad X 71)), (3, .int (x3 + 6))] [1, 2, 3, 0] rfl ?_
  exact hk18 (x3 + 6) g gm h
set_option maxHeartbeats 1000000 in
set_option maxRecDepth 20000 in
theorem b_law_b443 {X : z_X} {E : z_ET} {xs : Nat → Int32} {L b : Nat} (hE : z_EV X E cL_law 4 RL 16 424 80) (hX : z_SX X E b L xs) {r : Int32} (hret : ∀ (pc : Nat) (lv : List (Nat × Value)) (g gm : z_G), decode cL_law pc = .ok (.ireturn, 1) → z_V X E 4 g gm pc lv [.int r]) (k18 : Int32 → z_G → z_G → Option (Int32)) (hk18 : ∀ (x3 : Int32) (g : z_G) (gm : z_G), k18 x3 g gm = some r → z_V X E 4 g gm 18 [(0, .ref b), (1, .ref (z_ad X 39)), (2, .ref (z_ad X 71)), (3, .int x3)] []) (x3 : Int32) (s2 : Int32) (s1 : Int32) (g : z_G) (gm : z_G)  (h : s_law_b443 xs L k18 x3 s2 s1 g gm = some r) : z_V X E 4 g gm 443 [(0, .ref b), (1, .ref (z_ad X 39)), (2, .ref (z_ad X 71)), (3, .int x3)] [.int s2, .int s1, .ref (z_ad X 71)] := by
  unfold s_law_b443 at h
  obtain ⟨r171q, hr171q, h⟩ := z_bind_some h
  refine z_iV (rest := []) (av := [.int s1, .int s2]) hE (c_Mod_tie s1 s2 gm r171q hr171q) l_RL_57 (by decide) (by decide) e_71 rfl ⟨by decide, by decide⟩ dL_law_443 rfl (Nat.le_of_ble_eq_true rfl) ?_
  refine z_pop hE dL_law_446 rfl ?_
  refine z_goto hE 987 dL_law_447 rfl ?_
  exact b_law_b987 hE hX hret k18 hk18 x3 g r171q.2 h
set_option maxHeartbeats 1000000 in
set_option maxRecDepth 20000 in
theorem b_law_b420 {X : z_X} {E : z_ET} {xs : Nat → Int32} {L b : Nat} (hE : z_EV X E cL_law 4 RL 16 424 80) (hX : z_SX X E b L xs) {r : Int32} (hret : ∀ (pc : Nat) (lv : List (Nat × Value)) (g gm : z_G), decode cL_law pc = .ok (.ireturn, 1) → z_V X E 4 g gm pc lv [.int r]) (k18 : Int32 → z_G → z_G → Option (Int32)) (hk18 : ∀ (x3 : Int32) (g : z_G) (gm : z_G), k18 x3 g gm = some r → z_V X E 4 g gm 18 [(0, .ref b), (1, .ref (z_ad X 39)), (2, .ref (z_ad X 71)), (3, .int x3)] []) (x3 : Int32) (s2 : Int32) (s1 : Int32) (g : z_G) (gm : z_G)  (h : s_law_b420 xs L k18 x3 s2 s1 g gm = some r) : z_V X E 4 g gm 420 [(0, .ref b), (1, .ref (z_ad X 39)), (2, .ref (z_ad X 71)), (3, .int x3)] [.int s2, .int s1, .ref (z_ad X 39)] := by
  unfold s_law_b420 at h
  obtain ⟨r172q, hr172q, h⟩ := z_bind_some h
  refine z_iV (rest := []) (av := [.int s1, .int s2]) hE (c_Top_tie s1 s2 g r172q hr172q) l_RL_53 (by decide) (by decide) e_39 rfl ⟨by decide, by decide⟩ dL_law_420 rfl (Nat.le_of_ble_eq_true rfl) ?_
  refine z_pop hE dL_law_423 rfl ?_
  refine z_aload_n hE 2 dL_law_424 rfl ?_
  refine z_aload_n hE 0 dL_law_425 rfl ?_
  refine z_iload_n hE 3 dL_law_426 rfl ?_
  refine z_iconst (v := 1) hE dL_law_427 rfl ?_
  refine z_iadd hE dL_law_428 ?_
  obtain ⟨k173q, h⟩ := z_ck_some h
  refine z_sld hE hX k173q dL_law_429 ?_
  refine z_aload_n hE 0 dL_law_430 rfl ?_
  refine z_iload_n hE 3 dL_law_431 rfl ?_
  refine z_iconst (v := 2) hE dL_law_432 rfl ?_
  refine z_iadd hE dL_law_433 ?_
  obtain ⟨k174q, h⟩ := z_ck_some h
  refine z_sld hE hX k174q dL_law_434 ?_
  refine z_if_eq hE 442 dL_law_435 rfl (fun c175q => ?_) (fun c175q => ?_)
  · replace h := z_t c175q h
    refine z_iconst (v := 0) hE dL_law_442 rfl ?_
    exact b_law_b443 hE hX hret k18 hk18 x3 0 (xs (Int32.toNatClampNeg (x3 + 1))) r172q.2 gm h
  · replace h := z_f c175q h
    refine z_iconst (v := 1) hE dL_law_438 rfl ?_
    refine z_goto hE 443 dL_law_439 rfl ?_
    exact b_law_b443 hE hX hret k18 hk18 x3 1 (xs (Int32.toNatClampNeg (x3 + 1))) r172q.2 gm h
set_option maxHeartbeats 1000000 in
set_option maxRecDepth 20000 in
theorem b_law_L18 {X : z_X} {E : z_ET} {xs : Nat → Int32} {L b : Nat} (hE : z_EV X E cL_law 4 RL 16 424 80) (hX : z_SX X E b L xs) {r : Int32} (hret : ∀ (pc : Nat) (lv : List (Nat × Value)) (g gm : z_G), decode cL_law pc = .ok (.ireturn, 1) → z_V X E 4 g gm pc lv [.int r]) : ∀ (n : Nat) (x3 : Int32) (g : z_G) (gm : z_G), s_law_L18 xs L n x3 g gm = some r → z_V X E 4 g gm 18 [(0, .ref b), (1, .ref (z_ad X 39)), (2, .ref (z_ad X 71)), (3, .int x3)] [] := by
  intro n
  induction n with
  | zero => intro x3 g gm h; exact z_none h
  | succ n ih =>
    intro x3 g gm h
    rw [s_law_L18] at h
    refine z_iload_n hE 3 dL_law_18 rfl ?_
    refine z_aload_n hE 0 dL_law_19 rfl ?_
    refine z_slen hE hX dL_law_20 ?_
    refine z_bipush (v := 6) hE dL_law_21 rfl ?_
    refine z_isub hE dL_law_23 ?_
    refine z_icmp_gt hE 993 dL_law_24 rfl (fun c176q => ?_) (fun c176q => ?_)
    · replace h := z_t c176q h
      refine z_iconst (v := 1) hE dL_law_993 rfl ?_
      obtain rfl := Option.some.inj h
      exact hret _ _ _ _ dL_law_994
    · replace h := z_f c176q h
      refine z_aload_n hE 0 dL_law_27 rfl ?_
      refine z_iload_n hE 3 dL_law_28 rfl ?_
      obtain ⟨k177q, h⟩ := z_ck_some h
      refine z_sld hE hX k177q dL_law_29 ?_
      refine z_bipush (v := 31) hE dL_law_30 rfl ?_
      refine z_iand hE dL_law_32 ?_
      by_cases c178q : ((xs (Int32.toNatClampNeg x3)) &&& 31) = 0
      · replace h := z_t c178q h
        refine z_tIn (off := 131) hE 164 dL_law_33 (by rw [c178q]; decide) (by rw [c178q]; decide) (by rw [c178q]; decide) rfl ?_
        refine z_aload_n hE 1 dL_law_164 rfl ?_
        refine z_aload_n hE 0 dL_law_165 rfl ?_
        refine z_iload_n hE 3 dL_law_166 rfl ?_
        refine z_iconst (v := 1) hE dL_law_167 rfl ?_
        refine z_iadd hE dL_law_168 ?_
        obtain ⟨k179q, h⟩ := z_ck_some h
        refine z_sld hE hX k179q dL_law_169 ?_
        obtain ⟨r180q, hr180q, h⟩ := z_bind_some h
        refine z_iV (rest := []) (av := [.int (xs (Int32.toNatClampNeg (x3 + 1)))]) hE (c_Top_write (xs (Int32.toNatClampNeg (x3 + 1))) g r180q hr180q) l_RL_13 (by decide) (by decide) e_39 rfl ⟨by decide, by decide⟩ dL_law_170 rfl (Nat.le_of_ble_eq_true rfl) ?_
        refine z_pop hE dL_law_173 rfl ?_
        refine z_aload_n hE 2 dL_law_174 rfl ?_
        refine z_aload_n hE 0 dL_law_175 rfl ?_
        refine z_iload_n hE 3 dL_law_176 rfl ?_
        refine z_iconst (v := 1) hE dL_law_177 rfl ?_
        refine z_iadd hE dL_law_178 ?_
        obtain ⟨k181q, h⟩ := z_ck_some h
        refine z_sld hE hX k181q dL_law_179 ?_
        obtain ⟨r182q, hr182q, h⟩ := z_bind_some h
        refine z_iV (rest := []) (av := [.int (xs (Int32.toNatClampNeg (x3 + 1)))]) hE (c_Mod_write (xs (Int32.toNatClampNeg (x3 + 1))) gm r182q hr182q) l_RL_17 (by decide) (by decide) e_71 rfl ⟨by decide, by decide⟩ dL_law_180 rfl (Nat.le_of_ble_eq_true rfl) ?_
        refine z_pop hE dL_law_183 rfl ?_
        refine z_goto hE 987 dL_law_184 rfl ?_
        exact b_law_b987 hE hX hret (s_law_L18 xs L n) ih x3 r180q.2 r182q.2 h
      replace h := z_f c178q h
      by_cases c183q : ((xs (Int32.toNatClampNeg x3)) &&& 31) = 1
      · replace h := z_t c183q h
        refine z_tIn (off := 154) hE 187 dL_law_33 (by rw [c183q]; decide) (by rw [c183q]; decide) (by rw [c183q]; decide) rfl ?_
        refine z_aload_n hE 1 dL_law_187 rfl ?_
        refine z_iV (rest := []) (av := []) hE (c_Top_wipe g) l_RL_18 (by decide) (by decide) e_39 rfl ⟨by decide, by decide⟩ dL_law_188 rfl (Nat.le_of_ble_eq_true rfl) ?_
        refine z_pop hE dL_law_191 rfl ?_
        refine z_aload_n hE 2 dL_law_192 rfl ?_
        refine z_iV (rest := []) (av := []) hE (c_Mod_wipe gm) l_RL_22 (by decide) (by decide) e_71 rfl ⟨by decide, by decide⟩ dL_law_193 rfl (Nat.le_of_ble_eq_true rfl) ?_
        refine z_pop hE dL_law_196 rfl ?_
        refine z_goto hE 987 dL_law_197 rfl ?_
        exact b_law_b987 hE hX hret (s_law_L18 xs L n) ih x3 (s_Top_wipe g).2 (s_Mod_wipe gm).2 h
      replace h := z_f c183q h
      by_cases c184q : ((xs (Int32.toNatClampNeg x3)) &&& 31) = 2
      · replace h := z_t c184q h
        refine z_tIn (off := 167) hE 200 dL_law_33 (by rw [c184q]; decide) (by rw [c184q]; decide) (by rw [c184q]; decide) rfl ?_
        refine z_aload_n hE 1 dL_law_200 rfl ?_
        obtain ⟨r185q, hr185q, h⟩ := z_bind_some h
        refine z_iV (rest := []) (av := []) hE (c_Top_fault g r185q hr185q) l_RL_23 (by decide) (by decide) e_39 rfl ⟨by decide, by decide⟩ dL_law_201 rfl (Nat.le_of_ble_eq_true rfl) ?_
        refine z_pop hE dL_law_204 rfl ?_
        refine z_aload_n hE 2 dL_law_205 rfl ?_
        obtain ⟨r186q, hr186q, h⟩ := z_bind_some h
        refine z_iV (rest := []) (av := []) hE (c_Mod_fault gm r186q hr186q) l_RL_26 (by decide) (by decide) e_71 rfl ⟨by decide, by decide⟩ dL_law_206 rfl (Nat.le_of_ble_eq_true rfl) ?_
        refine z_pop hE dL_law_209 rfl ?_
        refine z_goto hE 987 dL_law_210 rfl ?_
        exact b_law_b987 hE hX hret (s_law_L18 xs L n) ih x3 r185q.2 r186q.2 h
      replace h := z_f c184q h
      by_cases c187q : ((xs (Int32.toNatClampNeg x3)) &&& 31) = 3
      · replace h := z_t c187q h
        refine z_tIn (off := 180) hE 213 dL_law_33 (by rw [c187q]; decide) (by rw [c187q]; decide) (by rw [c187q]; decide) rfl ?_
        refine z_aload_n hE 1 dL_law_213 rfl ?_
        obtain ⟨r188q, hr188q, h⟩ := z_bind_some h
        refine z_iV (rest := []) (av := []) hE (c_Top_lay g r188q hr188q) l_RL_27 (by decide) (by decide) e_39 rfl ⟨by decide, by decide⟩ dL_law_214 rfl (Nat.le_of_ble_eq_true rfl) ?_
        refine z_pop hE dL_law_217 rfl ?_
        refine z_aload_n hE 2 dL_law_218 rfl ?_
        obtain ⟨r189q, hr189q, h⟩ := z_bind_some h
        refine z_iV (rest := []) (av := []) hE (c_Mod_lay gm r189q hr189q) l_RL_30 (by decide) (by decide) e_71 rfl ⟨by decide, by decide⟩ dL_law_219 rfl (Nat.le_of_ble_eq_true rfl) ?_
        refine z_pop hE dL_law_222 rfl ?_
        refine z_goto hE 987 dL_law_223 rfl ?_
        exact b_law_b987 hE hX hret (s_law_L18 xs L n) ih x3 r188q.2 r189q.2 h
      replace h := z_f c187q h
      by_cases c190q : ((xs (Int32.toNatClampNeg x3)) &&& 31) = 4
      · replace h := z_t c190q h
        refine z_tIn (off := 193) hE 226 dL_law_33 (by rw [c190q]; decide) (by rw [c190q]; decide) (by rw [c190q]; decide) rfl ?_
        refine z_aload_n hE 1 dL_law_226 rfl ?_
        refine z_aload_n hE 0 dL_law_227 rfl ?_
        refine z_iload_n hE 3 dL_law_228 rfl ?_
        refine z_iconst (v := 1) hE dL_law_229 rfl ?_
        refine z_iadd hE dL_law_230 ?_
        obtain ⟨k191q, h⟩ := z_ck_some h
        refine z_sld hE hX k191q dL_law_231 ?_
        refine z_aload_n hE 0 dL_law_232 rfl ?_
        refine z_iload_n hE 3 dL_law_233 rfl ?_
        refine z_iconst (v := 2) hE dL_law_234 rfl ?_
        refine z_iadd hE dL_law_235 ?_
        obtain ⟨k192q, h⟩ := z_ck_some h
        refine z_sld hE hX k192q dL_law_236 ?_
        obtain ⟨r193q, hr193q, h⟩ := z_bind_some h
        refine z_iV (rest := []) (av := [.int (xs (Int32.toNatClampNeg (x3 + 1))), .int (xs (Int32.toNatClampNeg (x3 + 2)))]) hE (c_Top_man (xs (Int32.toNatClampNeg (x3 + 1))) (xs (Int32.toNatClampNeg (x3 + 2))) g r193q hr193q) l_RL_31 (by decide) (by decide) e_39 rfl ⟨by decide, by decide⟩ dL_law_237 rfl (Nat.le_of_ble_eq_true rfl) ?_
        refine z_pop hE dL_law_240 rfl ?_
        refine z_aload_n hE 2 dL_law_241 rfl ?_
        refine z_aload_n hE 0 dL_law_242 rfl ?_
        refine z_iload_n hE 3 dL_law_243 rfl ?_
        refine z_iconst (v := 1) hE dL_law_244 rfl ?_
        refine z_iadd hE dL_law_245 ?_
        obtain ⟨k194q, h⟩ := z_ck_some h
        refine z_sld hE hX k194q dL_law_246 ?_
        refine z_aload_n hE 0 dL_law_247 rfl ?_
        refine z_iload_n hE 3 dL_law_248 rfl ?_
        refine z_iconst (v := 2) hE dL_law_249 rfl ?_
        refine z_iadd hE dL_law_250 ?_
        obtain ⟨k195q, h⟩ := z_ck_some h
        refine z_sld hE hX k195q dL_law_251 ?_
        obtain ⟨r196q, hr196q, h⟩ := z_bind_some h
        refine z_iV (rest := []) (av := [.int (xs (Int32.toNatClampNeg (x3 + 1))), .int (xs (Int32.toNatClampNeg (x3 + 2)))]) hE (c_Mod_man (xs (Int32.toNatClampNeg (x3 + 1))) (xs (Int32.toNatClampNeg (x3 + 2))) gm r196q hr196q) l_RL_35 (by decide) (by decide) e_71 rfl ⟨by decide, by decide⟩ dL_law_252 rfl (Nat.le_of_ble_eq_true rfl) ?_
        refine z_pop hE dL_law_255 rfl ?_
        refine z_goto hE 987 dL_law_256 rfl ?_
        exact b_law_b987 hE hX hret (s_law_L18 xs L n) ih x3 g gm h
      replace h := z_f c190q h
      by_cases c197q : ((xs (Int32.toNatClampNeg x3)) &&& 31) = 5
      · replace h := z_t c197q h
        refine z_tIn (off := 226) hE 259 dL_law_33 (by rw [c197q]; decide) (by rw [c197q]; decide) (by rw [c197q]; decide) rfl ?_
        refine z_aload_n hE 1 dL_law_259 rfl ?_
        refine z_aload_n hE 0 dL_law_260 rfl ?_
        refine z_iload_n hE 3 dL_law_261 rfl ?_
        refine z_iconst (v := 1) hE dL_law_262 rfl ?_
        refine z_iadd hE dL_law_263 ?_
        obtain ⟨k198q, h⟩ := z_ck_some h
        refine z_sld hE hX k198q dL_law_264 ?_
        refine z_aload_n hE 0 dL_law_265 rfl ?_
        refine z_iload_n hE 3 dL_law_266 rfl ?_
        refine z_iconst (v := 2) hE dL_law_267 rfl ?_
        refine z_iadd hE dL_law_268 ?_
        obtain ⟨k199q, h⟩ := z_ck_some h
        refine z_sld hE hX k199q dL_law_269 ?_
        obtain ⟨r200q, hr200q, h⟩ := z_bind_some h
        refine z_iV (rest := []) (av := [.int (xs (Int32.toNatClampNeg (x3 + 1))), .int (xs (Int32.toNatClampNeg (x3 + 2)))]) hE (c_Top_home (xs (Int32.toNatClampNeg (x3 + 1))) (xs (Int32.toNatClampNeg (x3 + 2))) g r200q hr200q) l_RL_36 (by decide) (by decide) e_39 rfl ⟨by decide, by decide⟩ dL_law_270 rfl (Nat.le_of_ble_eq_true rfl) ?_
        refine z_pop hE dL_law_273 rfl ?_
        refine z_aload_n hE 2 dL_law_274 rfl ?_
        refine z_aload_n hE 0 dL_law_275 rfl ?_
        refine z_iload_n hE 3 dL_law_276 rfl ?_
        refine z_iconst (v := 1) hE dL_law_277 rfl ?_
        refine z_iadd hE dL_law_278 ?_
        obtain ⟨k201q, h⟩ := z_ck_some h
        refine z_sld hE hX k201q dL_law_279 ?_
        refine z_aload_n hE 0 dL_law_280 rfl ?_
        refine z_iload_n hE 3 dL_law_281 rfl ?_
        refine z_iconst (v := 2) hE dL_law_282 rfl ?_
        refine z_iadd hE dL_law_283 ?_
        obtain ⟨k202q, h⟩ := z_ck_some h
        refine z_sld hE hX k202q dL_law_284 ?_
        obtain ⟨r203q, hr203q, h⟩ := z_bind_some h
        refine z_iV (rest := []) (av := [.int (xs (Int32.toNatClampNeg (x3 + 1))), .int (xs (Int32.toNatClampNeg (x3 + 2)))]) hE (c_Mod_home (xs (Int32.toNatClampNeg (x3 + 1))) (xs (Int32.toNatClampNeg (x3 + 2))) gm r203q hr203q) l_RL_39 (by decide) (by decide) e_71 rfl ⟨by decide, by decide⟩ dL_law_285 rfl (Nat.le_of_ble_eq_true rfl) ?_
        refine z_pop hE dL_law_288 rfl ?_
        refine z_goto hE 987 dL_law_289 rfl ?_
        exact b_law_b987 hE hX hret (s_law_L18 xs L n) ih x3 g gm h
      replace h := z_f c197q h
      by_cases c204q : ((xs (Int32.toNatClampNeg x3)) &&& 31) = 6
      · replace h := z_t c204q h
        refine z_tIn (off := 259) hE 292 dL_law_33 (by rw [c204q]; decide) (by rw [c204q]; decide) (by rw [c204q]; decide) rfl ?_
        refine z_aload_n hE 1 dL_law_292 rfl ?_
        refine z_aload_n hE 0 dL_law_293 rfl ?_
        refine z_iload_n hE 3 dL_law_294 rfl ?_
        refine z_iconst (v := 1) hE dL_law_295 rfl ?_
        refine z_iadd hE dL_law_296 ?_
        obtain ⟨k205q, h⟩ := z_ck_some h
        refine z_sld hE hX k205q dL_law_297 ?_
        obtain ⟨r206q, hr206q, h⟩ := z_bind_some h
        refine z_iV (rest := []) (av := [.int (xs (Int32.toNatClampNeg (x3 + 1)))]) hE (c_Top_told (xs (Int32.toNatClampNeg (x3 + 1))) g r206q hr206q) l_RL_40 (by decide) (by decide) e_39 rfl ⟨by decide, by decide⟩ dL_law_298 rfl (Nat.le_of_ble_eq_true rfl) ?_
        refine z_pop hE dL_law_301 rfl ?_
        refine z_aload_n hE 2 dL_law_302 rfl ?_
        refine z_aload_n hE 0 dL_law_303 rfl ?_
        refine z_iload_n hE 3 dL_law_304 rfl ?_
        refine z_iconst (v := 1) hE dL_law_305 rfl ?_
        refine z_iadd hE dL_law_306 ?_
        obtain ⟨k207q, h⟩ := z_ck_some h
        refine z_sld hE hX k207q dL_law_307 ?_
        obtain ⟨r208q, hr208q, h⟩ := z_bind_some h
        refine z_iV (rest := []) (av := [.int (xs (Int32.toNatClampNeg (x3 + 1)))]) hE (c_Mod_told (xs (Int32.toNatClampNeg (x3 + 1))) gm r208q hr208q) l_RL_43 (by decide) (by decide) e_71 rfl ⟨by decide, by decide⟩ dL_law_308 rfl (Nat.le_of_ble_eq_true rfl) ?_
        refine z_pop hE dL_law_311 rfl ?_
        refine z_goto hE 987 dL_law_312 rfl ?_
        exact b_law_b987 hE hX hret (s_law_L18 xs L n) ih x3 g gm h
      replace h := z_f c204q h
      by_cases c209q : ((xs (Int32.toNatClampNeg x3)) &&& 31) = 7
      · replace h := z_t c209q h
        refine z_tIn (off := 282) hE 315 dL_law_33 (by rw [c209q]; decide) (by rw [c209q]; decide) (by rw [c209q]; decide) rfl ?_
        refine z_aload_n hE 1 dL_law_315 rfl ?_
        refine z_aload_n hE 0 dL_law_316 rfl ?_
        refine z_iload_n hE 3 dL_law_317 rfl ?_
        refine z_iconst (v := 1) hE dL_law_318 rfl ?_
        refine z_iadd hE dL_law_319 ?_
        obtain ⟨k210q, h⟩ := z_ck_some h
        refine z_sld hE hX k210q dL_law_320 ?_
        refine z_aload_n hE 0 dL_law_321 rfl ?_
        refine z_iload_n hE 3 dL_law_322 rfl ?_
        refine z_iconst (v := 2) hE dL_law_323 rfl ?_
        refine z_iadd hE dL_law_324 ?_
        obtain ⟨k211q, h⟩ := z_ck_some h
        refine z_sld hE hX k211q dL_law_325 ?_
        refine z_aload_n hE 0 dL_law_326 rfl ?_
        refine z_iload_n hE 3 dL_law_327 rfl ?_
        refine z_iconst (v := 3) hE dL_law_328 rfl ?_
        refine z_iadd hE dL_law_329 ?_
        obtain ⟨k212q, h⟩ := z_ck_some h
        refine z_sld hE hX k212q dL_law_330 ?_
        refine z_aload_n hE 0 dL_law_331 rfl ?_
        refine z_iload_n hE 3 dL_law_332 rfl ?_
        refine z_iconst (v := 4) hE dL_law_333 rfl ?_
        refine z_iadd hE dL_law_334 ?_
        obtain ⟨k213q, h⟩ := z_ck_some h
        refine z_sld hE hX k213q dL_law_335 ?_
        refine z_iV (rest := []) (av := [.int (xs (Int32.toNatClampNeg (x3 + 1))), .int (xs (Int32.toNatClampNeg (x3 + 2))), .int (xs (Int32.toNatClampNeg (x3 + 3))), .int (xs (Int32.toNatClampNeg (x3 + 4)))]) hE (c_Top_toward (xs (Int32.toNatClampNeg (x3 + 1))) (xs (Int32.toNatClampNeg (x3 + 2))) (xs (Int32.toNatClampNeg (x3 + 3))) (xs (Int32.toNatClampNeg (x3 + 4))) g) l_RL_44 (by decide) (by decide) e_39 rfl ⟨by decide, by decide⟩ dL_law_336 rfl (Nat.le_of_ble_eq_true rfl) ?_
        refine z_pop hE dL_law_339 rfl ?_
        refine z_aload_n hE 2 dL_law_340 rfl ?_
        refine z_aload_n hE 0 dL_law_341 rfl ?_
        refine z_iload_n hE 3 dL_law_342 rfl ?_
        refine z_iconst (v := 1) hE dL_law_343 rfl ?_
        refine z_iadd hE dL_law_344 ?_
        obtain ⟨k214q, h⟩ := z_ck_some h
        refine z_sld hE hX k214q dL_law_345 ?_
        refine z_aload_n hE 0 dL_law_346 rfl ?_
        refine z_iload_n hE 3 dL_law_347 rfl ?_
        refine z_iconst (v := 2) hE dL_law_348 rfl ?_
        refine z_iadd hE dL_law_349 ?_
        obtain ⟨k215q, h⟩ := z_ck_some h
        refine z_sld hE hX k215q dL_law_350 ?_
        refine z_aload_n hE 0 dL_law_351 rfl ?_
        refine z_iload_n hE 3 dL_law_352 rfl ?_
        refine z_iconst (v := 3) hE dL_law_353 rfl ?_
        refine z_iadd hE dL_law_354 ?_
        obtain ⟨k216q, h⟩ := z_ck_some h
        refine z_sld hE hX k216q dL_law_355 ?_
        refine z_aload_n hE 0 dL_law_356 rfl ?_
        refine z_iload_n hE 3 dL_law_357 rfl ?_
        refine z_iconst (v := 4) hE dL_law_358 rfl ?_
        refine z_iadd hE dL_law_359 ?_
        obtain ⟨k217q, h⟩ := z_ck_some h
        refine z_sld hE hX k217q dL_law_360 ?_
        refine z_iV (rest := []) (av := [.int (xs (Int32.toNatClampNeg (x3 + 1))), .int (xs (Int32.toNatClampNeg (x3 + 2))), .int (xs (Int32.toNatClampNeg (x3 + 3))), .int (xs (Int32.toNatClampNeg (x3 + 4)))]) hE (c_Mod_toward (xs (Int32.toNatClampNeg (x3 + 1))) (xs (Int32.toNatClampNeg (x3 + 2))) (xs (Int32.toNatClampNeg (x3 + 3))) (xs (Int32.toNatClampNeg (x3 + 4))) gm) l_RL_48 (by decide) (by decide) e_71 rfl ⟨by decide, by decide⟩ dL_law_361 rfl (Nat.le_of_ble_eq_true rfl) ?_
        refine z_pop hE dL_law_364 rfl ?_
        refine z_goto hE 987 dL_law_365 rfl ?_
        exact b_law_b987 hE hX hret (s_law_L18 xs L n) ih x3 g gm h
      replace h := z_f c209q h
      by_cases c218q : ((xs (Int32.toNatClampNeg x3)) &&& 31) = 8
      · replace h := z_t c218q h
        refine z_tIn (off := 335) hE 368 dL_law_33 (by rw [c218q]; decide) (by rw [c218q]; decide) (by rw [c218q]; decide) rfl ?_
        refine z_aload_n hE 1 dL_law_368 rfl ?_
        refine z_aload_n hE 0 dL_law_369 rfl ?_
        refine z_iload_n hE 3 dL_law_370 rfl ?_
        refine z_iconst (v := 1) hE dL_law_371 rfl ?_
        refine z_iadd hE dL_law_372 ?_
        obtain ⟨k219q, h⟩ := z_ck_some h
        refine z_sld hE hX k219q dL_law_373 ?_
        refine z_aload_n hE 0 dL_law_374 rfl ?_
        refine z_iload_n hE 3 dL_law_375 rfl ?_
        refine z_iconst (v := 2) hE dL_law_376 rfl ?_
        refine z_iadd hE dL_law_377 ?_
        obtain ⟨k220q, h⟩ := z_ck_some h
        refine z_sld hE hX k220q dL_law_378 ?_
        obtain ⟨r221q, hr221q, h⟩ := z_bind_some h
        refine z_iV (rest := []) (av := [.int (xs (Int32.toNatClampNeg (x3 + 1))), .int (xs (Int32.toNatClampNeg (x3 + 2)))]) hE (c_Top_order (xs (Int32.toNatClampNeg (x3 + 1))) (xs (Int32.toNatClampNeg (x3 + 2))) g r221q hr221q) l_RL_49 (by decide) (by decide) e_39 rfl ⟨by decide, by decide⟩ dL_law_379 rfl (Nat.le_of_ble_eq_true rfl) ?_
        refine z_pop hE dL_law_382 rfl ?_
        refine z_aload_n hE 2 dL_law_383 rfl ?_
        refine z_aload_n hE 0 dL_law_384 rfl ?_
        refine z_iload_n hE 3 dL_law_385 rfl ?_
        refine z_iconst (v := 1) hE dL_law_386 rfl ?_
        refine z_iadd hE dL_law_387 ?_
        obtain ⟨k222q, h⟩ := z_ck_some h
        refine z_sld hE hX k222q dL_law_388 ?_
        refine z_aload_n hE 0 dL_law_389 rfl ?_
        refine z_iload_n hE 3 dL_law_390 rfl ?_
        refine z_iconst (v := 2) hE dL_law_391 rfl ?_
        refine z_iadd hE dL_law_392 ?_
        obtain ⟨k223q, h⟩ := z_ck_some h
        refine z_sld hE hX k223q dL_law_393 ?_
        obtain ⟨r224q, hr224q, h⟩ := z_bind_some h
        refine z_iV (rest := []) (av := [.int (xs (Int32.toNatClampNeg (x3 + 1))), .int (xs (Int32.toNatClampNeg (x3 + 2)))]) hE (c_Mod_order (xs (Int32.toNatClampNeg (x3 + 1))) (xs (Int32.toNatClampNeg (x3 + 2))) gm r224q hr224q) l_RL_52 (by decide) (by decide) e_71 rfl ⟨by decide, by decide⟩ dL_law_394 rfl (Nat.le_of_ble_eq_true rfl) ?_
        refine z_pop hE dL_law_397 rfl ?_
        refine z_goto hE 987 dL_law_398 rfl ?_
        exact b_law_b987 hE hX hret (s_law_L18 xs L n) ih x3 r221q.2 r224q.2 h
      replace h := z_f c218q h
      by_cases c225q : ((xs (Int32.toNatClampNeg x3)) &&& 31) = 9
      · replace h := z_t c225q h
        refine z_tIn (off := 368) hE 401 dL_law_33 (by rw [c225q]; decide) (by rw [c225q]; decide) (by rw [c225q]; decide) rfl ?_
        refine z_aload_n hE 1 dL_law_401 rfl ?_
        refine z_aload_n hE 0 dL_law_402 rfl ?_
        refine z_iload_n hE 3 dL_law_403 rfl ?_
        refine z_iconst (v := 1) hE dL_law_404 rfl ?_
        refine z_iadd hE dL_law_405 ?_
        obtain ⟨k226q, h⟩ := z_ck_some h
        refine z_sld hE hX k226q dL_law_406 ?_
        refine z_aload_n hE 0 dL_law_407 rfl ?_
        refine z_iload_n hE 3 dL_law_408 rfl ?_
        refine z_iconst (v := 2) hE dL_law_409 rfl ?_
        refine z_iadd hE dL_law_410 ?_
        obtain ⟨k227q, h⟩ := z_ck_some h
        refine z_sld hE hX k227q dL_law_411 ?_
        refine z_if_eq hE 419 dL_law_412 rfl (fun c228q => ?_) (fun c228q => ?_)
        · replace h := z_t c228q h
          refine z_iconst (v := 0) hE dL_law_419 rfl ?_
          exact b_law_b420 hE hX hret (s_law_L18 xs L n) ih x3 0 (xs (Int32.toNatClampNeg (x3 + 1))) g gm h
        · replace h := z_f c228q h
          refine z_iconst (v := 1) hE dL_law_415 rfl ?_
          refine z_goto hE 420 dL_law_416 rfl ?_
          exact b_law_b420 hE hX hret (s_law_L18 xs L n) ih x3 1 (xs (Int32.toNatClampNeg (x3 + 1))) g gm h
      replace h := z_f c225q h
      by_cases c229q : ((xs (Int32.toNatClampNeg x3)) &&& 31) = 10
      · replace h := z_t c229q h
        refine z_tIn (off := 417) hE 450 dL_law_33 (by rw [c229q]; decide) (by rw [c229q]; decide) (by rw [c229q]; decide) rfl ?_
        refine z_aload_n hE 1 dL_law_450 rfl ?_
        refine z_aload_n hE 0 dL_law_451 rfl ?_
        refine z_iload_n hE 3 dL_law_452 rfl ?_
        refine z_iconst (v := 1) hE dL_law_453 rfl ?_
        refine z_iadd hE dL_law_454 ?_
        obtain ⟨k230q, h⟩ := z_ck_some h
        refine z_sld hE hX k230q dL_law_455 ?_
        refine z_aload_n hE 0 dL_law_456 rfl ?_
        refine z_iload_n hE 3 dL_law_457 rfl ?_
        refine z_iconst (v := 2) hE dL_law_458 rfl ?_
        refine z_iadd hE dL_law_459 ?_
        obtain ⟨k231q, h⟩ := z_ck_some h
        refine z_sld hE hX k231q dL_law_460 ?_
        obtain ⟨r232q, hr232q, h⟩ := z_bind_some h
        refine z_iV (rest := []) (av := [.int (xs (Int32.toNatClampNeg (x3 + 1))), .int (xs (Int32.toNatClampNeg (x3 + 2)))]) hE (c_Top_swap (xs (Int32.toNatClampNeg (x3 + 1))) (xs (Int32.toNatClampNeg (x3 + 2))) g r232q hr232q) l_RL_58 (by decide) (by decide) e_39 rfl ⟨by decide, by decide⟩ dL_law_461 rfl (Nat.le_of_ble_eq_true rfl) ?_
        refine z_pop hE dL_law_464 rfl ?_
        refine z_aload_n hE 2 dL_law_465 rfl ?_
        refine z_aload_n hE 0 dL_law_466 rfl ?_
        refine z_iload_n hE 3 dL_law_467 rfl ?_
        refine z_iconst (v := 1) hE dL_law_468 rfl ?_
        refine z_iadd hE dL_law_469 ?_
        obtain ⟨k233q, h⟩ := z_ck_some h
        refine z_sld hE hX k233q dL_law_470 ?_
        refine z_aload_n hE 0 dL_law_471 rfl ?_
        refine z_iload_n hE 3 dL_law_472 rfl ?_
        refine z_iconst (v := 2) hE dL_law_473 rfl ?_
        refine z_iadd hE dL_law_474 ?_
        obtain ⟨k234q, h⟩ := z_ck_some h
        refine z_sld hE hX k234q dL_law_475 ?_
        obtain ⟨r235q, hr235q, h⟩ := z_bind_some h
        refine z_iV (rest := []) (av := [.int (xs (Int32.toNatClampNeg (x3 + 1))), .int (xs (Int32.toNatClampNeg (x3 + 2)))]) hE (c_Mod_swap (xs (Int32.toNatClampNeg (x3 + 1))) (xs (Int32.toNatClampNeg (x3 + 2))) gm r235q hr235q) l_RL_61 (by decide) (by decide) e_71 rfl ⟨by decide, by decide⟩ dL_law_476 rfl (Nat.le_of_ble_eq_true rfl) ?_
        refine z_pop hE dL_law_479 rfl ?_
        refine z_goto hE 987 dL_law_480 rfl ?_
        exact b_law_b987 hE hX hret (s_law_L18 xs L n) ih x3 r232q.2 r235q.2 h
      replace h := z_f c229q h
      by_cases c236q : ((xs (Int32.toNatClampNeg x3)) &&& 31) = 11
      · replace h := z_t c236q h
        refine z_tIn (off := 450) hE 483 dL_law_33 (by rw [c236q]; decide) (by rw [c236q]; decide) (by rw [c236q]; decide) rfl ?_
        refine z_aload_n hE 1 dL_law_483 rfl ?_
        obtain ⟨r237q, hr237q, h⟩ := z_bind_some h
        refine z_iV (rest := []) (av := []) hE (c_Top_undo g r237q hr237q) l_RL_62 (by decide) (by decide) e_39 rfl ⟨by decide, by decide⟩ dL_law_484 rfl (Nat.le_of_ble_eq_true rfl) ?_
        refine z_pop hE dL_law_487 rfl ?_
        refine z_aload_n hE 2 dL_law_488 rfl ?_
        obtain ⟨r238q, hr238q, h⟩ := z_bind_some h
        refine z_iV (rest := []) (av := []) hE (c_Mod_undo gm r238q hr238q) l_RL_65 (by decide) (by decide) e_71 rfl ⟨by decide, by decide⟩ dL_law_489 rfl (Nat.le_of_ble_eq_true rfl) ?_
        refine z_pop hE dL_law_492 rfl ?_
        refine z_goto hE 987 dL_law_493 rfl ?_
        exact b_law_b987 hE hX hret (s_law_L18 xs L n) ih x3 r237q.2 r238q.2 h
      replace h := z_f c236q h
      by_cases c239q : ((xs (Int32.toNatClampNeg x3)) &&& 31) = 12
      · replace h := z_t c239q h
        refine z_tIn (off := 463) hE 496 dL_law_33 (by rw [c239q]; decide) (by rw [c239q]; decide) (by rw [c239q]; decide) rfl ?_
        refine z_aload_n hE 1 dL_law_496 rfl ?_
        refine z_aload_n hE 0 dL_law_497 rfl ?_
        refine z_iload_n hE 3 dL_law_498 rfl ?_
        refine z_iconst (v := 1) hE dL_law_499 rfl ?_
        refine z_iadd hE dL_law_500 ?_
        obtain ⟨k240q, h⟩ := z_ck_some h
        refine z_sld hE hX k240q dL_law_501 ?_
        refine z_aload_n hE 0 dL_law_502 rfl ?_
        refine z_iload_n hE 3 dL_law_503 rfl ?_
        refine z_iconst (v := 2) hE dL_law_504 rfl ?_
        refine z_iadd hE dL_law_505 ?_
        obtain ⟨k241q, h⟩ := z_ck_some h
        refine z_sld hE hX k241q dL_law_506 ?_
        obtain ⟨r242q, hr242q, h⟩ := z_bind_some h
        refine z_iV (rest := []) (av := [.int (xs (Int32.toNatClampNeg (x3 + 1))), .int (xs (Int32.toNatClampNeg (x3 + 2)))]) hE (c_Top_tell (xs (Int32.toNatClampNeg (x3 + 1))) (xs (Int32.toNatClampNeg (x3 + 2))) g r242q hr242q) l_RL_66 (by decide) (by decide) e_39 rfl ⟨by decide, by decide⟩ dL_law_507 rfl (Nat.le_of_ble_eq_true rfl) ?_
        refine z_pop hE dL_law_510 rfl ?_
        refine z_aload_n hE 2 dL_law_511 rfl ?_
        refine z_aload_n hE 0 dL_law_512 rfl ?_
        refine z_iload_n hE 3 dL_law_513 rfl ?_
        refine z_iconst (v := 1) hE dL_law_514 rfl ?_
        refine z_iadd hE dL_law_515 ?_
        obtain ⟨k243q, h⟩ := z_ck_some h
        refine z_sld hE hX k243q dL_law_516 ?_
        refine z_aload_n hE 0 dL_law_517 rfl ?_
        refine z_iload_n hE 3 dL_law_518 rfl ?_
        refine z_iconst (v := 2) hE dL_law_519 rfl ?_
        refine z_iadd hE dL_law_520 ?_
        obtain ⟨k244q, h⟩ := z_ck_some h
        refine z_sld hE hX k244q dL_law_521 ?_
        obtain ⟨r245q, hr245q, h⟩ := z_bind_some h
        refine z_iV (rest := []) (av := [.int (xs (Int32.toNatClampNeg (x3 + 1))), .int (xs (Int32.toNatClampNeg (x3 + 2)))]) hE (c_Mod_tell (xs (Int32.toNatClampNeg (x3 + 1))) (xs (Int32.toNatClampNeg (x3 + 2))) gm r245q hr245q) l_RL_69 (by decide) (by decide) e_71 rfl ⟨by decide, by decide⟩ dL_law_522 rfl (Nat.le_of_ble_eq_true rfl) ?_
        refine z_pop hE dL_law_525 rfl ?_
        refine z_goto hE 987 dL_law_526 rfl ?_
        exact b_law_b987 hE hX hret (s_law_L18 xs L n) ih x3 r242q.2 r245q.2 h
      replace h := z_f c239q h
      by_cases c246q : ((xs (Int32.toNatClampNeg x3)) &&& 31) = 13
      · replace h := z_t c246q h
        refine z_tIn (off := 496) hE 529 dL_law_33 (by rw [c246q]; decide) (by rw [c246q]; decide) (by rw [c246q]; decide) rfl ?_
        refine z_aload_n hE 1 dL_law_529 rfl ?_
        refine z_iV (rest := []) (av := []) hE (c_Top_noRow g) l_RL_70 (by decide) (by decide) e_39 rfl ⟨by decide, by decide⟩ dL_law_530 rfl (Nat.le_of_ble_eq_true rfl) ?_
        refine z_pop hE dL_law_533 rfl ?_
        refine z_aload_n hE 2 dL_law_534 rfl ?_
        refine z_iV (rest := []) (av := []) hE (c_Mod_noRow gm) l_RL_73 (by decide) (by decide) e_71 rfl ⟨by decide, by decide⟩ dL_law_535 rfl (Nat.le_of_ble_eq_true rfl) ?_
        refine z_pop hE dL_law_538 rfl ?_
        refine z_goto hE 987 dL_law_539 rfl ?_
        exact b_law_b987 hE hX hret (s_law_L18 xs L n) ih x3 (s_Top_noRow g).2 (s_Mod_noRow gm).2 h
      replace h := z_f c246q h
      by_cases c247q : ((xs (Int32.toNatClampNeg x3)) &&& 31) = 14
      · replace h := z_t c247q h
        refine z_tIn (off := 509) hE 542 dL_law_33 (by rw [c247q]; decide) (by rw [c247q]; decide) (by rw [c247q]; decide) rfl ?_
        refine z_aload_n hE 1 dL_law_542 rfl ?_
        refine z_aload_n hE 0 dL_law_543 rfl ?_
        refine z_iload_n hE 3 dL_law_544 rfl ?_
        refine z_iconst (v := 1) hE dL_law_545 rfl ?_
        refine z_iadd hE dL_law_546 ?_
        obtain ⟨k248q, h⟩ := z_ck_some h
        refine z_sld hE hX k248q dL_law_547 ?_
        refine z_aload_n hE 0 dL_law_548 rfl ?_
        refine z_iload_n hE 3 dL_law_549 rfl ?_
        refine z_iconst (v := 2) hE dL_law_550 rfl ?_
        refine z_iadd hE dL_law_551 ?_
        obtain ⟨k249q, h⟩ := z_ck_some h
        refine z_sld hE hX k249q dL_law_552 ?_
        refine z_aload_n hE 0 dL_law_553 rfl ?_
        refine z_iload_n hE 3 dL_law_554 rfl ?_
        refine z_iconst (v := 3) hE dL_law_555 rfl ?_
        refine z_iadd hE dL_law_556 ?_
        obtain ⟨k250q, h⟩ := z_ck_some h
        refine z_sld hE hX k250q dL_law_557 ?_
        obtain ⟨r251q, hr251q, h⟩ := z_bind_some h
        refine z_iV (rest := []) (av := [.int (xs (Int32.toNatClampNeg (x3 + 1))), .int (xs (Int32.toNatClampNeg (x3 + 2))), .int (xs (Int32.toNatClampNeg (x3 + 3)))]) hE (c_Top_behind (xs (Int32.toNatClampNeg (x3 + 1))) (xs (Int32.toNatClampNeg (x3 + 2))) (xs (Int32.toNatClampNeg (x3 + 3))) g r251q hr251q) l_RL_74 (by decide) (by decide) e_39 rfl ⟨by decide, by decide⟩ dL_law_558 rfl (Nat.le_of_ble_eq_true rfl) ?_
        refine z_pop hE dL_law_561 rfl ?_
        refine z_aload_n hE 2 dL_law_562 rfl ?_
        refine z_aload_n hE 0 dL_law_563 rfl ?_
        refine z_iload_n hE 3 dL_law_564 rfl ?_
        refine z_iconst (v := 1) hE dL_law_565 rfl ?_
        refine z_iadd hE dL_law_566 ?_
        obtain ⟨k252q, h⟩ := z_ck_some h
        refine z_sld hE hX k252q dL_law_567 ?_
        refine z_aload_n hE 0 dL_law_568 rfl ?_
        refine z_iload_n hE 3 dL_law_569 rfl ?_
        refine z_iconst (v := 2) hE dL_law_570 rfl ?_
        refine z_iadd hE dL_law_571 ?_
        obtain ⟨k253q, h⟩ := z_ck_some h
        refine z_sld hE hX k253q dL_law_572 ?_
        refine z_aload_n hE 0 dL_law_573 rfl ?_
        refine z_iload_n hE 3 dL_law_574 rfl ?_
        refine z_iconst (v := 3) hE dL_law_575 rfl ?_
        refine z_iadd hE dL_law_576 ?_
        obtain ⟨k254q, h⟩ := z_ck_some h
        refine z_sld hE hX k254q dL_law_577 ?_
        obtain ⟨r255q, hr255q, h⟩ := z_bind_some h
        refine z_iV (rest := []) (av := [.int (xs (Int32.toNatClampNeg (x3 + 1))), .int (xs (Int32.toNatClampNeg (x3 + 2))), .int (xs (Int32.toNatClampNeg (x3 + 3)))]) hE (c_Mod_behind (xs (Int32.toNatClampNeg (x3 + 1))) (xs (Int32.toNatClampNeg (x3 + 2))) (xs (Int32.toNatClampNeg (x3 + 3))) gm r255q hr255q) l_RL_78 (by decide) (by decide) e_71 rfl ⟨by decide, by decide⟩ dL_law_578 rfl (Nat.le_of_ble_eq_true rfl) ?_
        refine z_pop hE dL_law_581 rfl ?_
        refine z_goto hE 987 dL_law_582 rfl ?_
        exact b_law_b987 hE hX hret (s_law_L18 xs L n) ih x3 g r255q.2 h
      replace h := z_f c247q h
      by_cases c256q : ((xs (Int32.toNatClampNeg x3)) &&& 31) = 15
      · replace h := z_t c256q h
        refine z_tIn (off := 552) hE 585 dL_law_33 (by rw [c256q]; decide) (by rw [c256q]; decide) (by rw [c256q]; decide) rfl ?_
        refine z_aload_n hE 1 dL_law_585 rfl ?_
        obtain ⟨r257q, hr257q, h⟩ := z_bind_some h
        refine z_iV (rest := []) (av := []) hE (c_Top_strayed g r257q hr257q) l_RL_79 (by decide) (by decide) e_39 rfl ⟨by decide, by decide⟩ dL_law_586 rfl (Nat.le_of_ble_eq_true rfl) ?_
        refine z_pop hE dL_law_589 rfl ?_
        refine z_aload_n hE 2 dL_law_590 rfl ?_
        obtain ⟨r258q, hr258q, h⟩ := z_bind_some h
        refine z_iV (rest := []) (av := []) hE (c_Mod_strayed gm r258q hr258q) l_RL_82 (by decide) (by decide) e_71 rfl ⟨by decide, by decide⟩ dL_law_591 rfl (Nat.le_of_ble_eq_true rfl) ?_
        refine z_pop hE dL_law_594 rfl ?_
        refine z_goto hE 987 dL_law_595 rfl ?_
        exact b_law_b987 hE hX hret (s_law_L18 xs L n) ih x3 r257q.2 r258q.2 h
      replace h := z_f c256q h
      by_cases c259q : ((xs (Int32.toNatClampNeg x3)) &&& 31) = 16
      · replace h := z_t c259q h
        refine z_tIn (off := 565) hE 598 dL_law_33 (by rw [c259q]; decide) (by rw [c259q]; decide) (by rw [c259q]; decide) rfl ?_
        refine z_aload_n hE 1 dL_law_598 rfl ?_
        refine z_aload_n hE 0 dL_law_599 rfl ?_
        refine z_iload_n hE 3 dL_law_600 rfl ?_
        refine z_iconst (v := 1) hE dL_law_601 rfl ?_
        refine z_iadd hE dL_law_602 ?_
        obtain ⟨k260q, h⟩ := z_ck_some h
        refine z_sld hE hX k260q dL_law_603 ?_
        refine z_aload_n hE 0 dL_law_604 rfl ?_
        refine z_iload_n hE 3 dL_law_605 rfl ?_
        refine z_iconst (v := 2) hE dL_law_606 rfl ?_
        refine z_iadd hE dL_law_607 ?_
        obtain ⟨k261q, h⟩ := z_ck_some h
        refine z_sld hE hX k261q dL_law_608 ?_
        refine z_aload_n hE 0 dL_law_609 rfl ?_
        refine z_iload_n hE 3 dL_law_610 rfl ?_
        refine z_iconst (v := 3) hE dL_law_611 rfl ?_
        refine z_iadd hE dL_law_612 ?_
        obtain ⟨k262q, h⟩ := z_ck_some h
        refine z_sld hE hX k262q dL_law_613 ?_
        refine z_aload_n hE 0 dL_law_614 rfl ?_
        refine z_iload_n hE 3 dL_law_615 rfl ?_
        refine z_iconst (v := 4) hE dL_law_616 rfl ?_
        refine z_iadd hE dL_law_617 ?_
        obtain ⟨k263q, h⟩ := z_ck_some h
        refine z_sld hE hX k263q dL_law_618 ?_
        obtain ⟨r264q, hr264q, h⟩ := z_bind_some h
        refine z_iV (rest := []) (av := [.int (xs (Int32.toNatClampNeg (x3 + 1))), .int (xs (Int32.toNatClampNeg (x3 + 2))), .int (xs (Int32.toNatClampNeg (x3 + 3))), .int (xs (Int32.toNatClampNeg (x3 + 4)))]) hE (c_Top_bring (xs (Int32.toNatClampNeg (x3 + 1))) (xs (Int32.toNatClampNeg (x3 + 2))) (xs (Int32.toNatClampNeg (x3 + 3))) (xs (Int32.toNatClampNeg (x3 + 4))) g r264q hr264q) l_RL_83 (by decide) (by decide) e_39 rfl ⟨by decide, by decide⟩ dL_law_619 rfl (Nat.le_of_ble_eq_true rfl) ?_
        refine z_pop hE dL_law_622 rfl ?_
        refine z_aload_n hE 2 dL_law_623 rfl ?_
        refine z_aload_n hE 0 dL_law_624 rfl ?_
        refine z_iload_n hE 3 dL_law_625 rfl ?_
        refine z_iconst (v := 1) hE dL_law_626 rfl ?_
        refine z_iadd hE dL_law_627 ?_
        obtain ⟨k265q, h⟩ := z_ck_some h
        refine z_sld hE hX k265q dL_law_628 ?_
        refine z_aload_n hE 0 dL_law_629 rfl ?_
        refine z_iload_n hE 3 dL_law_630 rfl ?_
        refine z_iconst (v := 2) hE dL_law_631 rfl ?_
        refine z_iadd hE dL_law_632 ?_
        obtain ⟨k266q, h⟩ := z_ck_some h
        refine z_sld hE hX k266q dL_law_633 ?_
        refine z_aload_n hE 0 dL_law_634 rfl ?_
        refine z_iload_n hE 3 dL_law_635 rfl ?_
        refine z_iconst (v := 3) hE dL_law_636 rfl ?_
        refine z_iadd hE dL_law_637 ?_
        obtain ⟨k267q, h⟩ := z_ck_some h
        refine z_sld hE hX k267q dL_law_638 ?_
        refine z_aload_n hE 0 dL_law_639 rfl ?_
        refine z_iload_n hE 3 dL_law_640 rfl ?_
        refine z_iconst (v := 4) hE dL_law_641 rfl ?_
        refine z_iadd hE dL_law_642 ?_
        obtain ⟨k268q, h⟩ := z_ck_some h
        refine z_sld hE hX k268q dL_law_643 ?_
        obtain ⟨r269q, hr269q, h⟩ := z_bind_some h
        refine z_iV (rest := []) (av := [.int (xs (Int32.toNatClampNeg (x3 + 1))), .int (xs (Int32.toNatClampNeg (x3 + 2))), .int (xs (Int32.toNatClampNeg (x3 + 3))), .int (xs (Int32.toNatClampNeg (x3 + 4)))]) hE (c_Mod_bring (xs (Int32.toNatClampNeg (x3 + 1))) (xs (Int32.toNatClampNeg (x3 + 2))) (xs (Int32.toNatClampNeg (x3 + 3))) (xs (Int32.toNatClampNeg (x3 + 4))) gm r269q hr269q) l_RL_86 (by decide) (by decide) e_71 rfl ⟨by decide, by decide⟩ dL_law_644 rfl (Nat.le_of_ble_eq_true rfl) ?_
        refine z_pop hE dL_law_647 rfl ?_
        refine z_goto hE 987 dL_law_648 rfl ?_
        exact b_law_b987 hE hX hret (s_law_L18 xs L n) ih x3 r264q.2 r269q.2 h
      replace h := z_f c259q h
      by_cases c270q : ((xs (Int32.toNatClampNeg x3)) &&& 31) = 17
      · replace h := z_t c270q h
        refine z_tIn (off := 618) hE 651 dL_law_33 (by rw [c270q]; decide) (by rw [c270q]; decide) (by rw [c270q]; decide) rfl ?_
        refine z_aload_n hE 1 dL_law_651 rfl ?_
        refine z_aload_n hE 0 dL_law_652 rfl ?_
        refine z_iload_n hE 3 dL_law_653 rfl ?_
        refine z_iconst (v := 1) hE dL_law_654 rfl ?_
        refine z_iadd hE dL_law_655 ?_
        obtain ⟨k271q, h⟩ := z_ck_some h
        refine z_sld hE hX k271q dL_law_656 ?_
        obtain ⟨r272q, hr272q, h⟩ := z_bind_some h
        refine z_iV (rest := []) (av := [.int (xs (Int32.toNatClampNeg (x3 + 1)))]) hE (c_Top_pairs (xs (Int32.toNatClampNeg (x3 + 1))) g r272q hr272q) l_RL_87 (by decide) (by decide) e_39 rfl ⟨by decide, by decide⟩ dL_law_657 rfl (Nat.le_of_ble_eq_true rfl) ?_
        refine z_pop hE dL_law_660 rfl ?_
        refine z_aload_n hE 2 dL_law_661 rfl ?_
        refine z_aload_n hE 0 dL_law_662 rfl ?_
        refine z_iload_n hE 3 dL_law_663 rfl ?_
        refine z_iconst (v := 1) hE dL_law_664 rfl ?_
        refine z_iadd hE dL_law_665 ?_
        obtain ⟨k273q, h⟩ := z_ck_some h
        refine z_sld hE hX k273q dL_law_666 ?_
        obtain ⟨r274q, hr274q, h⟩ := z_bind_some h
        refine z_iV (rest := []) (av := [.int (xs (Int32.toNatClampNeg (x3 + 1)))]) hE (c_Mod_pairs (xs (Int32.toNatClampNeg (x3 + 1))) gm r274q hr274q) l_RL_90 (by decide) (by decide) e_71 rfl ⟨by decide, by decide⟩ dL_law_667 rfl (Nat.le_of_ble_eq_true rfl) ?_
        refine z_pop hE dL_law_670 rfl ?_
        refine z_goto hE 987 dL_law_671 rfl ?_
        exact b_law_b987 hE hX hret (s_law_L18 xs L n) ih x3 r272q.2 r274q.2 h
      replace h := z_f c270q h
      by_cases c275q : ((xs (Int32.toNatClampNeg x3)) &&& 31) = 18
      · replace h := z_t c275q h
        refine z_tIn (off := 641) hE 674 dL_law_33 (by rw [c275q]; decide) (by rw [c275q]; decide) (by rw [c275q]; decide) rfl ?_
        refine z_aload_n hE 1 dL_law_674 rfl ?_
        refine z_aload_n hE 0 dL_law_675 rfl ?_
        refine z_iload_n hE 3 dL_law_676 rfl ?_
        refine z_iconst (v := 1) hE dL_law_677 rfl ?_
        refine z_iadd hE dL_law_678 ?_
        obtain ⟨k276q, h⟩ := z_ck_some h
        refine z_sld hE hX k276q dL_law_679 ?_
        obtain ⟨r277q, hr277q, h⟩ := z_bind_some h
        refine z_iV (rest := []) (av := [.int (xs (Int32.toNatClampNeg (x3 + 1)))]) hE (c_Top_homeward (xs (Int32.toNatClampNeg (x3 + 1))) g r277q hr277q) l_RL_91 (by decide) (by decide) e_39 rfl ⟨by decide, by decide⟩ dL_law_680 rfl (Nat.le_of_ble_eq_true rfl) ?_
        refine z_pop hE dL_law_683 rfl ?_
        refine z_aload_n hE 2 dL_law_684 rfl ?_
        refine z_aload_n hE 0 dL_law_685 rfl ?_
        refine z_iload_n hE 3 dL_law_686 rfl ?_
        refine z_iconst (v := 1) hE dL_law_687 rfl ?_
        refine z_iadd hE dL_law_688 ?_
        obtain ⟨k278q, h⟩ := z_ck_some h
        refine z_sld hE hX k278q dL_law_689 ?_
        obtain ⟨r279q, hr279q, h⟩ := z_bind_some h
        refine z_iV (rest := []) (av := [.int (xs (Int32.toNatClampNeg (x3 + 1)))]) hE (c_Mod_homeward (xs (Int32.toNatClampNeg (x3 + 1))) gm r279q hr279q) l_RL_94 (by decide) (by decide) e_71 rfl ⟨by decide, by decide⟩ dL_law_690 rfl (Nat.le_of_ble_eq_true rfl) ?_
        refine z_pop hE dL_law_693 rfl ?_
        refine z_goto hE 987 dL_law_694 rfl ?_
        exact b_law_b987 hE hX hret (s_law_L18 xs L n) ih x3 g r279q.2 h
      replace h := z_f c275q h
      by_cases c280q : ((xs (Int32.toNatClampNeg x3)) &&& 31) = 19
      · replace h := z_t c280q h
        refine z_tIn (off := 664) hE 697 dL_law_33 (by rw [c280q]; decide) (by rw [c280q]; decide) (by rw [c280q]; decide) rfl ?_
        refine z_aload_n hE 1 dL_law_697 rfl ?_
        refine z_aload_n hE 0 dL_law_698 rfl ?_
        refine z_iload_n hE 3 dL_law_699 rfl ?_
        refine z_iconst (v := 1) hE dL_law_700 rfl ?_
        refine z_iadd hE dL_law_701 ?_
        obtain ⟨k281q, h⟩ := z_ck_some h
        refine z_sld hE hX k281q dL_law_702 ?_
        refine z_aload_n hE 0 dL_law_703 rfl ?_
        refine z_iload_n hE 3 dL_law_704 rfl ?_
        refine z_iconst (v := 2) hE dL_law_705 rfl ?_
        refine z_iadd hE dL_law_706 ?_
        obtain ⟨k282q, h⟩ := z_ck_some h
        refine z_sld hE hX k282q dL_law_707 ?_
        refine z_aload_n hE 0 dL_law_708 rfl ?_
        refine z_iload_n hE 3 dL_law_709 rfl ?_
        refine z_iconst (v := 3) hE dL_law_710 rfl ?_
        refine z_iadd hE dL_law_711 ?_
        obtain ⟨k283q, h⟩ := z_ck_some h
        refine z_sld hE hX k283q dL_law_712 ?_
        obtain ⟨r284q, hr284q, h⟩ := z_bind_some h
        refine z_iV (rest := []) (av := [.int (xs (Int32.toNatClampNeg (x3 + 1))), .int (xs (Int32.toNatClampNeg (x3 + 2))), .int (xs (Int32.toNatClampNeg (x3 + 3)))]) hE (c_Top_seen (xs (Int32.toNatClampNeg (x3 + 1))) (xs (Int32.toNatClampNeg (x3 + 2))) (xs (Int32.toNatClampNeg (x3 + 3))) g r284q hr284q) l_RL_95 (by decide) (by decide) e_39 rfl ⟨by decide, by decide⟩ dL_law_713 rfl (Nat.le_of_ble_eq_true rfl) ?_
        refine z_pop hE dL_law_716 rfl ?_
        refine z_aload_n hE 2 dL_law_717 rfl ?_
        refine z_aload_n hE 0 dL_law_718 rfl ?_
        refine z_iload_n hE 3 dL_law_719 rfl ?_
        refine z_iconst (v := 1) hE dL_law_720 rfl ?_
        refine z_iadd hE dL_law_721 ?_
        obtain ⟨k285q, h⟩ := z_ck_some h
        refine z_sld hE hX k285q dL_law_722 ?_
        refine z_aload_n hE 0 dL_law_723 rfl ?_
        refine z_iload_n hE 3 dL_law_724 rfl ?_
        refine z_iconst (v := 2) hE dL_law_725 rfl ?_
        refine z_iadd hE dL_law_726 ?_
        obtain ⟨k286q, h⟩ := z_ck_some h
        refine z_sld hE hX k286q dL_law_727 ?_
        refine z_aload_n hE 0 dL_law_728 rfl ?_
        refine z_iload_n hE 3 dL_law_729 rfl ?_
        refine z_iconst (v := 3) hE dL_law_730 rfl ?_
        refine z_iadd hE dL_law_731 ?_
        obtain ⟨k287q, h⟩ := z_ck_some h
        refine z_sld hE hX k287q dL_law_732 ?_
        obtain ⟨r288q, hr288q, h⟩ := z_bind_some h
        refine z_iV (rest := []) (av := [.int (xs (Int32.toNatClampNeg (x3 + 1))), .int (xs (Int32.toNatClampNeg (x3 + 2))), .int (xs (Int32.toNatClampNeg (x3 + 3)))]) hE (c_Mod_seen (xs (Int32.toNatClampNeg (x3 + 1))) (xs (Int32.toNatClampNeg (x3 + 2))) (xs (Int32.toNatClampNeg (x3 + 3))) gm r288q hr288q) l_RL_98 (by decide) (by decide) e_71 rfl ⟨by decide, by decide⟩ dL_law_733 rfl (Nat.le_of_ble_eq_true rfl) ?_
        refine z_pop hE dL_law_736 rfl ?_
        refine z_goto hE 987 dL_law_737 rfl ?_
        exact b_law_b987 hE hX hret (s_law_L18 xs L n) ih x3 r284q.2 r288q.2 h
      replace h := z_f c280q h
      by_cases c289q : ((xs (Int32.toNatClampNeg x3)) &&& 31) = 20
      · replace h := z_t c289q h
        refine z_tIn (off := 707) hE 740 dL_law_33 (by rw [c289q]; decide) (by rw [c289q]; decide) (by rw [c289q]; decide) rfl ?_
        refine z_aload_n hE 1 dL_law_740 rfl ?_
        refine z_iV (rest := []) (av := []) hE (c_Top_forget g) l_RL_99 (by decide) (by decide) e_39 rfl ⟨by decide, by decide⟩ dL_law_741 rfl (Nat.le_of_ble_eq_true rfl) ?_
        refine z_pop hE dL_law_744 rfl ?_
        refine z_aload_n hE 2 dL_law_745 rfl ?_
        refine z_iV (rest := []) (av := []) hE (c_Mod_forget gm) l_RL_102 (by decide) (by decide) e_71 rfl ⟨by decide, by decide⟩ dL_law_746 rfl (Nat.le_of_ble_eq_true rfl) ?_
        refine z_pop hE dL_law_749 rfl ?_
        refine z_goto hE 987 dL_law_750 rfl ?_
        exact b_law_b987 hE hX hret (s_law_L18 xs L n) ih x3 (s_Top_forget g).2 (s_Mod_forget gm).2 h
      replace h := z_f c289q h
      by_cases c290q : ((xs (Int32.toNatClampNeg x3)) &&& 31) = 21
      · replace h := z_t c290q h
        refine z_tIn (off := 720) hE 753 dL_law_33 (by rw [c290q]; decide) (by rw [c290q]; decide) (by rw [c290q]; decide) rfl ?_
        refine z_aload_n hE 1 dL_law_753 rfl ?_
        refine z_aload_n hE 0 dL_law_754 rfl ?_
        refine z_iload_n hE 3 dL_law_755 rfl ?_
        refine z_iconst (v := 1) hE dL_law_756 rfl ?_
        refine z_iadd hE dL_law_757 ?_
        obtain ⟨k291q, h⟩ := z_ck_some h
        refine z_sld hE hX k291q dL_law_758 ?_
        refine z_aload_n hE 0 dL_law_759 rfl ?_
        refine z_iload_n hE 3 dL_law_760 rfl ?_
        refine z_iconst (v := 2) hE dL_law_761 rfl ?_
        refine z_iadd hE dL_law_762 ?_
        obtain ⟨k292q, h⟩ := z_ck_some h
        refine z_sld hE hX k292q dL_law_763 ?_
        obtain ⟨r293q, hr293q, h⟩ := z_bind_some h
        refine z_iV (rest := []) (av := [.int (xs (Int32.toNatClampNeg (x3 + 1))), .int (xs (Int32.toNatClampNeg (x3 + 2)))]) hE (c_Top_villages (xs (Int32.toNatClampNeg (x3 + 1))) (xs (Int32.toNatClampNeg (x3 + 2))) g r293q hr293q) l_RL_103 (by decide) (by decide) e_39 rfl ⟨by decide, by decide⟩ dL_law_764 rfl (Nat.le_of_ble_eq_true rfl) ?_
        refine z_pop hE dL_law_767 rfl ?_
        refine z_aload_n hE 2 dL_law_768 rfl ?_
        refine z_aload_n hE 0 dL_law_769 rfl ?_
        refine z_iload_n hE 3 dL_law_770 rfl ?_
        refine z_iconst (v := 1) hE dL_law_771 rfl ?_
        refine z_iadd hE dL_law_772 ?_
        obtain ⟨k294q, h⟩ := z_ck_some h
        refine z_sld hE hX k294q dL_law_773 ?_
        refine z_aload_n hE 0 dL_law_774 rfl ?_
        refine z_iload_n hE 3 dL_law_775 rfl ?_
        refine z_iconst (v := 2) hE dL_law_776 rfl ?_
        refine z_iadd hE dL_law_777 ?_
        obtain ⟨k295q, h⟩ := z_ck_some h
        refine z_sld hE hX k295q dL_law_778 ?_
        obtain ⟨r296q, hr296q, h⟩ := z_bind_some h
        refine z_iV (rest := []) (av := [.int (xs (Int32.toNatClampNeg (x3 + 1))), .int (xs (Int32.toNatClampNeg (x3 + 2)))]) hE (c_Mod_villages (xs (Int32.toNatClampNeg (x3 + 1))) (xs (Int32.toNatClampNeg (x3 + 2))) gm r296q hr296q) l_RL_106 (by decide) (by decide) e_71 rfl ⟨by decide, by decide⟩ dL_law_779 rfl (Nat.le_of_ble_eq_true rfl) ?_
        refine z_pop hE dL_law_782 rfl ?_
        refine z_goto hE 987 dL_law_783 rfl ?_
        exact b_law_b987 hE hX hret (s_law_L18 xs L n) ih x3 g r296q.2 h
      replace h := z_f c290q h
      by_cases c297q : ((xs (Int32.toNatClampNeg x3)) &&& 31) = 22
      · replace h := z_t c297q h
        refine z_tIn (off := 753) hE 786 dL_law_33 (by rw [c297q]; decide) (by rw [c297q]; decide) (by rw [c297q]; decide) rfl ?_
        refine z_aload_n hE 1 dL_law_786 rfl ?_
        refine z_aload_n hE 0 dL_law_787 rfl ?_
        refine z_iload_n hE 3 dL_law_788 rfl ?_
        refine z_iconst (v := 1) hE dL_law_789 rfl ?_
        refine z_iadd hE dL_law_790 ?_
        obtain ⟨k298q, h⟩ := z_ck_some h
        refine z_sld hE hX k298q dL_law_791 ?_
        obtain ⟨r299q, hr299q, h⟩ := z_bind_some h
        refine z_iV (rest := []) (av := [.int (xs (Int32.toNatClampNeg (x3 + 1)))]) hE (c_Top_strays (xs (Int32.toNatClampNeg (x3 + 1))) g r299q hr299q) l_RL_107 (by decide) (by decide) e_39 rfl ⟨by decide, by decide⟩ dL_law_792 rfl (Nat.le_of_ble_eq_true rfl) ?_
        refine z_pop hE dL_law_795 rfl ?_
        refine z_aload_n hE 2 dL_law_796 rfl ?_
        refine z_aload_n hE 0 dL_law_797 rfl ?_
        refine z_iload_n hE 3 dL_law_798 rfl ?_
        refine z_iconst (v := 1) hE dL_law_799 rfl ?_
        refine z_iadd hE dL_law_800 ?_
        obtain ⟨k300q, h⟩ := z_ck_some h
        refine z_sld hE hX k300q dL_law_801 ?_
        obtain ⟨r301q, hr301q, h⟩ := z_bind_some h
        refine z_iV (rest := []) (av := [.int (xs (Int32.toNatClampNeg (x3 + 1)))]) hE (c_Mod_strays (xs (Int32.toNatClampNeg (x3 + 1))) gm r301q hr301q) l_RL_110 (by decide) (by decide) e_71 rfl ⟨by decide, by decide⟩ dL_law_802 rfl (Nat.le_of_ble_eq_true rfl) ?_
        refine z_pop hE dL_law_805 rfl ?_
        refine z_goto hE 987 dL_law_806 rfl ?_
        exact b_law_b987 hE hX hret (s_law_L18 xs L n) ih x3 g r301q.2 h
      replace h := z_f c297q h
      by_cases c302q : ((xs (Int32.toNatClampNeg x3)) &&& 31) = 23
      · replace h := z_t c302q h
        refine z_tIn (off := 776) hE 809 dL_law_33 (by rw [c302q]; decide) (by rw [c302q]; decide) (by rw [c302q]; decide) rfl ?_
        refine z_aload_n hE 1 dL_law_809 rfl ?_
        refine z_aload_n hE 0 dL_law_810 rfl ?_
        refine z_iload_n hE 3 dL_law_811 rfl ?_
        refine z_iconst (v := 1) hE dL_law_812 rfl ?_
        refine z_iadd hE dL_law_813 ?_
        obtain ⟨k303q, h⟩ := z_ck_some h
        refine z_sld hE hX k303q dL_law_814 ?_
        obtain ⟨r304q, hr304q, h⟩ := z_bind_some h
        refine z_iV (rest := []) (av := [.int (xs (Int32.toNatClampNeg (x3 + 1)))]) hE (c_Top_lean (xs (Int32.toNatClampNeg (x3 + 1))) g r304q hr304q) l_RL_111 (by decide) (by decide) e_39 rfl ⟨by decide, by decide⟩ dL_law_815 rfl (Nat.le_of_ble_eq_true rfl) ?_
        refine z_pop hE dL_law_818 rfl ?_
        refine z_aload_n hE 2 dL_law_819 rfl ?_
        refine z_aload_n hE 0 dL_law_820 rfl ?_
        refine z_iload_n hE 3 dL_law_821 rfl ?_
        refine z_iconst (v := 1) hE dL_law_822 rfl ?_
        refine z_iadd hE dL_law_823 ?_
        obtain ⟨k305q, h⟩ := z_ck_some h
        refine z_sld hE hX k305q dL_law_824 ?_
        obtain ⟨r306q, hr306q, h⟩ := z_bind_some h
        refine z_iV (rest := []) (av := [.int (xs (Int32.toNatClampNeg (x3 + 1)))]) hE (c_Mod_lean (xs (Int32.toNatClampNeg (x3 + 1))) gm r306q hr306q) l_RL_114 (by decide) (by decide) e_71 rfl ⟨by decide, by decide⟩ dL_law_825 rfl (Nat.le_of_ble_eq_true rfl) ?_
        refine z_pop hE dL_law_828 rfl ?_
        refine z_goto hE 987 dL_law_829 rfl ?_
        exact b_law_b987 hE hX hret (s_law_L18 xs L n) ih x3 g gm h
      replace h := z_f c302q h
      by_cases c307q : ((xs (Int32.toNatClampNeg x3)) &&& 31) = 24
      · replace h := z_t c307q h
        refine z_tIn (off := 799) hE 832 dL_law_33 (by rw [c307q]; decide) (by rw [c307q]; decide) (by rw [c307q]; decide) rfl ?_
        refine z_aload_n hE 1 dL_law_832 rfl ?_
        refine z_aload_n hE 0 dL_law_833 rfl ?_
        refine z_iload_n hE 3 dL_law_834 rfl ?_
        refine z_iconst (v := 1) hE dL_law_835 rfl ?_
        refine z_iadd hE dL_law_836 ?_
        obtain ⟨k308q, h⟩ := z_ck_some h
        refine z_sld hE hX k308q dL_law_837 ?_
        refine z_aload_n hE 0 dL_law_838 rfl ?_
        refine z_iload_n hE 3 dL_law_839 rfl ?_
        refine z_iconst (v := 2) hE dL_law_840 rfl ?_
        refine z_iadd hE dL_law_841 ?_
        obtain ⟨k309q, h⟩ := z_ck_some h
        refine z_sld hE hX k309q dL_law_842 ?_
        refine z_aload_n hE 0 dL_law_843 rfl ?_
        refine z_iload_n hE 3 dL_law_844 rfl ?_
        refine z_iconst (v := 3) hE dL_law_845 rfl ?_
        refine z_iadd hE dL_law_846 ?_
        obtain ⟨k310q, h⟩ := z_ck_some h
        refine z_sld hE hX k310q dL_law_847 ?_
        refine z_aload_n hE 0 dL_law_848 rfl ?_
        refine z_iload_n hE 3 dL_law_849 rfl ?_
        refine z_iconst (v := 4) hE dL_law_850 rfl ?_
        refine z_iadd hE dL_law_851 ?_
        obtain ⟨k311q, h⟩ := z_ck_some h
        refine z_sld hE hX k311q dL_law_852 ?_
        refine z_aload_n hE 0 dL_law_853 rfl ?_
        refine z_iload_n hE 3 dL_law_854 rfl ?_
        refine z_iconst (v := 5) hE dL_law_855 rfl ?_
        refine z_iadd hE dL_law_856 ?_
        obtain ⟨k312q, h⟩ := z_ck_some h
        refine z_sld hE hX k312q dL_law_857 ?_
        obtain ⟨r313q, hr313q, h⟩ := z_bind_some h
        refine z_iV (rest := []) (av := [.int (xs (Int32.toNatClampNeg (x3 + 1))), .int (xs (Int32.toNatClampNeg (x3 + 2))), .int (xs (Int32.toNatClampNeg (x3 + 3))), .int (xs (Int32.toNatClampNeg (x3 + 4))), .int (xs (Int32.toNatClampNeg (x3 + 5)))]) hE (c_Top_storms (xs (Int32.toNatClampNeg (x3 + 1))) (xs (Int32.toNatClampNeg (x3 + 2))) (xs (Int32.toNatClampNeg (x3 + 3))) (xs (Int32.toNatClampNeg (x3 + 4))) (xs (Int32.toNatClampNeg (x3 + 5))) g r313q hr313q) l_RL_115 (by decide) (by decide) e_39 rfl ⟨by decide, by decide⟩ dL_law_858 rfl (Nat.le_of_ble_eq_true rfl) ?_
        refine z_pop hE dL_law_861 rfl ?_
        refine z_aload_n hE 2 dL_law_862 rfl ?_
        refine z_aload_n hE 0 dL_law_863 rfl ?_
        refine z_iload_n hE 3 dL_law_864 rfl ?_
        refine z_iconst (v := 1) hE dL_law_865 rfl ?_
        refine z_iadd hE dL_law_866 ?_
        obtain ⟨k314q, h⟩ := z_ck_some h
        refine z_sld hE hX k314q dL_law_867 ?_
        refine z_aload_n hE 0 dL_law_868 rfl ?_
        refine z_iload_n hE 3 dL_law_869 rfl ?_
        refine z_iconst (v := 2) hE dL_law_870 rfl ?_
        refine z_iadd hE dL_law_871 ?_
        obtain ⟨k315q, h⟩ := z_ck_some h
        refine z_sld hE hX k315q dL_law_872 ?_
        refine z_aload_n hE 0 dL_law_873 rfl ?_
        refine z_iload_n hE 3 dL_law_874 rfl ?_
        refine z_iconst (v := 3) hE dL_law_875 rfl ?_
        refine z_iadd hE dL_law_876 ?_
        obtain ⟨k316q, h⟩ := z_ck_some h
        refine z_sld hE hX k316q dL_law_877 ?_
        refine z_aload_n hE 0 dL_law_878 rfl ?_
        refine z_iload_n hE 3 dL_law_879 rfl ?_
        refine z_iconst (v := 4) hE dL_law_880 rfl ?_
        refine z_iadd hE dL_law_881 ?_
        obtain ⟨k317q, h⟩ := z_ck_some h
        refine z_sld hE hX k317q dL_law_882 ?_
        refine z_aload_n hE 0 dL_law_883 rfl ?_
        refine z_iload_n hE 3 dL_law_884 rfl ?_
        refine z_iconst (v := 5) hE dL_law_885 rfl ?_
        refine z_iadd hE dL_law_886 ?_
        obtain ⟨k318q, h⟩ := z_ck_some h
        refine z_sld hE hX k318q dL_law_887 ?_
        obtain ⟨r319q, hr319q, h⟩ := z_bind_some h
        refine z_iV (rest := []) (av := [.int (xs (Int32.toNatClampNeg (x3 + 1))), .int (xs (Int32.toNatClampNeg (x3 + 2))), .int (xs (Int32.toNatClampNeg (x3 + 3))), .int (xs (Int32.toNatClampNeg (x3 + 4))), .int (xs (Int32.toNatClampNeg (x3 + 5)))]) hE (c_Mod_storms (xs (Int32.toNatClampNeg (x3 + 1))) (xs (Int32.toNatClampNeg (x3 + 2))) (xs (Int32.toNatClampNeg (x3 + 3))) (xs (Int32.toNatClampNeg (x3 + 4))) (xs (Int32.toNatClampNeg (x3 + 5))) gm r319q hr319q) l_RL_119 (by decide) (by decide) e_71 rfl ⟨by decide, by decide⟩ dL_law_888 rfl (Nat.le_of_ble_eq_true rfl) ?_
        refine z_pop hE dL_law_891 rfl ?_
        refine z_goto hE 987 dL_law_892 rfl ?_
        exact b_law_b987 hE hX hret (s_law_L18 xs L n) ih x3 g r319q.2 h
      replace h := z_f c307q h
      by_cases c320q : ((xs (Int32.toNatClampNeg x3)) &&& 31) = 25
      · replace h := z_t c320q h
        refine z_tIn (off := 862) hE 895 dL_law_33 (by rw [c320q]; decide) (by rw [c320q]; decide) (by rw [c320q]; decide) rfl ?_
        refine z_aload_n hE 1 dL_law_895 rfl ?_
        refine z_aload_n hE 0 dL_law_896 rfl ?_
        refine z_iload_n hE 3 dL_law_897 rfl ?_
        refine z_iconst (v := 1) hE dL_law_898 rfl ?_
        refine z_iadd hE dL_law_899 ?_
        obtain ⟨k321q, h⟩ := z_ck_some h
        refine z_sld hE hX k321q dL_law_900 ?_
        refine z_aload_n hE 0 dL_law_901 rfl ?_
        refine z_iload_n hE 3 dL_law_902 rfl ?_
        refine z_iconst (v := 2) hE dL_law_903 rfl ?_
        refine z_iadd hE dL_law_904 ?_
        obtain ⟨k322q, h⟩ := z_ck_some h
        refine z_sld hE hX k322q dL_law_905 ?_
        refine z_aload_n hE 0 dL_law_906 rfl ?_
        refine z_iload_n hE 3 dL_law_907 rfl ?_
        refine z_iconst (v := 3) hE dL_law_908 rfl ?_
        refine z_iadd hE dL_law_909 ?_
        obtain ⟨k323q, h⟩ := z_ck_some h
        refine z_sld hE hX k323q dL_law_910 ?_
        obtain ⟨r324q, hr324q, h⟩ := z_bind_some h
        refine z_iV (rest := []) (av := [.int (xs (Int32.toNatClampNeg (x3 + 1))), .int (xs (Int32.toNatClampNeg (x3 + 2))), .int (xs (Int32.toNatClampNeg (x3 + 3)))]) hE (c_Top_march (xs (Int32.toNatClampNeg (x3 + 1))) (xs (Int32.toNatClampNeg (x3 + 2))) (xs (Int32.toNatClampNeg (x3 + 3))) g r324q hr324q) l_RL_120 (by decide) (by decide) e_39 rfl ⟨by decide, by decide⟩ dL_law_911 rfl (Nat.le_of_ble_eq_true rfl) ?_
        refine z_pop hE dL_law_914 rfl ?_
        refine z_aload_n hE 2 dL_law_915 rfl ?_
        refine z_aload_n hE 0 dL_law_916 rfl ?_
        refine z_iload_n hE 3 dL_law_917 rfl ?_
        refine z_iconst (v := 1) hE dL_law_918 rfl ?_
        refine z_iadd hE dL_law_919 ?_
        obtain ⟨k325q, h⟩ := z_ck_some h
        refine z_sld hE hX k325q dL_law_920 ?_
        refine z_aload_n hE 0 dL_law_921 rfl ?_
        refine z_iload_n hE 3 dL_law_922 rfl ?_
        refine z_iconst (v := 2) hE dL_law_923 rfl ?_
        refine z_iadd hE dL_law_924 ?_
        obtain ⟨k326q, h⟩ := z_ck_some h
        refine z_sld hE hX k326q dL_law_925 ?_
        refine z_aload_n hE 0 dL_law_926 rfl ?_
        refine z_iload_n hE 3 dL_law_927 rfl ?_
        refine z_iconst (v := 3) hE dL_law_928 rfl ?_
        refine z_iadd hE dL_law_929 ?_
        obtain ⟨k327q, h⟩ := z_ck_some h
        refine z_sld hE hX k327q dL_law_930 ?_
        obtain ⟨r328q, hr328q, h⟩ := z_bind_some h
        refine z_iV (rest := []) (av := [.int (xs (Int32.toNatClampNeg (x3 + 1))), .int (xs (Int32.toNatClampNeg (x3 + 2))), .int (xs (Int32.toNatClampNeg (x3 + 3)))]) hE (c_Mod_march (xs (Int32.toNatClampNeg (x3 + 1))) (xs (Int32.toNatClampNeg (x3 + 2))) (xs (Int32.toNatClampNeg (x3 + 3))) gm r328q hr328q) l_RL_123 (by decide) (by decide) e_71 rfl ⟨by decide, by decide⟩ dL_law_931 rfl (Nat.le_of_ble_eq_true rfl) ?_
        refine z_pop hE dL_law_934 rfl ?_
        refine z_goto hE 987 dL_law_935 rfl ?_
        exact b_law_b987 hE hX hret (s_law_L18 xs L n) ih x3 r324q.2 r328q.2 h
      replace h := z_f c320q h
      by_cases c329q : ((xs (Int32.toNatClampNeg x3)) &&& 31) = 26
      · replace h := z_t c329q h
        refine z_tIn (off := 905) hE 938 dL_law_33 (by rw [c329q]; decide) (by rw [c329q]; decide) (by rw [c329q]; decide) rfl ?_
        refine z_aload_n hE 1 dL_law_938 rfl ?_
        obtain ⟨r330q, hr330q, h⟩ := z_bind_some h
        refine z_iV (rest := []) (av := []) hE (c_Top_keep g r330q hr330q) l_RL_124 (by decide) (by decide) e_39 rfl ⟨by decide, by decide⟩ dL_law_939 rfl (Nat.le_of_ble_eq_true rfl) ?_
        refine z_pop hE dL_law_942 rfl ?_
        refine z_aload_n hE 2 dL_law_943 rfl ?_
        obtain ⟨r331q, hr331q, h⟩ := z_bind_some h
        refine z_iV (rest := []) (av := []) hE (c_Mod_keep gm r331q hr331q) l_RL_127 (by decide) (by decide) e_71 rfl ⟨by decide, by decide⟩ dL_law_944 rfl (Nat.le_of_ble_eq_true rfl) ?_
        refine z_pop hE dL_law_947 rfl ?_
        refine z_goto hE 987 dL_law_948 rfl ?_
        exact b_law_b987 hE hX hret (s_law_L18 xs L n) ih x3 r330q.2 r331q.2 h
      replace h := z_f c329q h
      by_cases c332q : ((xs (Int32.toNatClampNeg x3)) &&& 31) = 27
      · replace h := z_t c332q h
        refine z_tIn (off := 918) hE 951 dL_law_33 (by rw [c332q]; decide) (by rw [c332q]; decide) (by rw [c332q]; decide) rfl ?_
        refine z_aload_n hE 1 dL_law_951 rfl ?_
        obtain ⟨r333q, hr333q, h⟩ := z_bind_some h
        refine z_iV (rest := []) (av := []) hE (c_Top_back g r333q hr333q) l_RL_128 (by decide) (by decide) e_39 rfl ⟨by decide, by decide⟩ dL_law_952 rfl (Nat.le_of_ble_eq_true rfl) ?_
        refine z_pop hE dL_law_955 rfl ?_
        refine z_aload_n hE 2 dL_law_956 rfl ?_
        obtain ⟨r334q, hr334q, h⟩ := z_bind_some h
        refine z_iV (rest := []) (av := []) hE (c_Mod_back gm r334q hr334q) l_RL_131 (by decide) (by decide) e_71 rfl ⟨by decide, by decide⟩ dL_law_957 rfl (Nat.le_of_ble_eq_true rfl) ?_
        refine z_pop hE dL_law_960 rfl ?_
        refine z_goto hE 987 dL_law_961 rfl ?_
        exact b_law_b987 hE hX hret (s_law_L18 xs L n) ih x3 r333q.2 r334q.2 h
      replace h := z_f c332q h
      by_cases c335q : ((xs (Int32.toNatClampNeg x3)) &&& 31) = 28
      · replace h := z_t c335q h
        refine z_tIn (off := 931) hE 964 dL_law_33 (by rw [c335q]; decide) (by rw [c335q]; decide) (by rw [c335q]; decide) rfl ?_
        refine z_aload_n hE 1 dL_law_964 rfl ?_
        refine z_aload_n hE 0 dL_law_965 rfl ?_
        refine z_iload_n hE 3 dL_law_966 rfl ?_
        refine z_iconst (v := 1) hE dL_law_967 rfl ?_
        refine z_iadd hE dL_law_968 ?_
        obtain ⟨k336q, h⟩ := z_ck_some h
        refine z_sld hE hX k336q dL_law_969 ?_
        obtain ⟨r337q, hr337q, h⟩ := z_bind_some h
        refine z_iV (rest := []) (av := [.int (xs (Int32.toNatClampNeg (x3 + 1)))]) hE (c_Top_count (xs (Int32.toNatClampNeg (x3 + 1))) g r337q hr337q) l_RL_132 (by decide) (by decide) e_39 rfl ⟨by decide, by decide⟩ dL_law_970 rfl (Nat.le_of_ble_eq_true rfl) ?_
        refine z_aload_n hE 2 dL_law_973 rfl ?_
        refine z_aload_n hE 0 dL_law_974 rfl ?_
        refine z_iload_n hE 3 dL_law_975 rfl ?_
        refine z_iconst (v := 1) hE dL_law_976 rfl ?_
        refine z_iadd hE dL_law_977 ?_
        obtain ⟨k338q, h⟩ := z_ck_some h
        refine z_sld hE hX k338q dL_law_978 ?_
        obtain ⟨r339q, hr339q, h⟩ := z_bind_some h
        refine z_iV (rest := [.int r337q]) (av := [.int (xs (Int32.toNatClampNeg (x3 + 1)))]) hE (c_Mod_count (xs (Int32.toNatClampNeg (x3 + 1))) gm r339q hr339q) l_RL_135 (by decide) (by decide) e_71 rfl ⟨by decide, by decide⟩ dL_law_979 rfl (Nat.le_of_ble_eq_true rfl) ?_
        refine z_icmp_eq hE 987 dL_law_982 rfl (fun c340q => ?_) (fun c340q => ?_)
        · replace h := z_t c340q h
          exact b_law_b987 hE hX hret (s_law_L18 xs L n) ih x3 g gm h
        · replace h := z_f c340q h
          refine z_iconst (v := 0) hE dL_law_985 rfl ?_
          obtain rfl := Option.some.inj h
          exact hret _ _ _ _ dL_law_986
      replace h := z_f c335q h
      have ic178q : Int32.toInt ((xs (Int32.toNatClampNeg x3)) &&& 31) ≠ 0 := z_ne c178q
      have ic183q : Int32.toInt ((xs (Int32.toNatClampNeg x3)) &&& 31) ≠ 1 := z_ne c183q
      have ic184q : Int32.toInt ((xs (Int32.toNatClampNeg x3)) &&& 31) ≠ 2 := z_ne c184q
      have ic187q : Int32.toInt ((xs (Int32.toNatClampNeg x3)) &&& 31) ≠ 3 := z_ne c187q
      have ic190q : Int32.toInt ((xs (Int32.toNatClampNeg x3)) &&& 31) ≠ 4 := z_ne c190q
      have ic197q : Int32.toInt ((xs (Int32.toNatClampNeg x3)) &&& 31) ≠ 5 := z_ne c197q
      have ic204q : Int32.toInt ((xs (Int32.toNatClampNeg x3)) &&& 31) ≠ 6 := z_ne c204q
      have ic209q : Int32.toInt ((xs (Int32.toNatClampNeg x3)) &&& 31) ≠ 7 := z_ne c209q
      have ic218q : Int32.toInt ((xs (Int32.toNatClampNeg x3)) &&& 31) ≠ 8 := z_ne c218q
      have ic225q : Int32.toInt ((xs (Int32.toNatClampNeg x3)) &&& 31) ≠ 9 := z_ne c225q
      have ic229q : Int32.toInt ((xs (Int32.toNatClampNeg x3)) &&& 31) ≠ 10 := z_ne c229q
      have ic236q : Int32.toInt ((xs (Int32.toNatClampNeg x3)) &&& 31) ≠ 11 := z_ne c236q
      have ic239q : Int32.toInt ((xs (Int32.toNatClampNeg x3)) &&& 31) ≠ 12 := z_ne c239q
      have ic246q : Int32.toInt ((xs (Int32.toNatClampNeg x3)) &&& 31) ≠ 13 := z_ne c246q
      have ic247q : Int32.toInt ((xs (Int32.toNatClampNeg x3)) &&& 31) ≠ 14 := z_ne c247q
      have ic256q : Int32.toInt ((xs (Int32.toNatClampNeg x3)) &&& 31) ≠ 15 := z_ne c256q
      have ic259q : Int32.toInt ((xs (Int32.toNatClampNeg x3)) &&& 31) ≠ 16 := z_ne c259q
      have ic270q : Int32.toInt ((xs (Int32.toNatClampNeg x3)) &&& 31) ≠ 17 := z_ne c270q
      have ic275q : Int32.toInt ((xs (Int32.toNatClampNeg x3)) &&& 31) ≠ 18 := z_ne c275q
      have ic280q : Int32.toInt ((xs (Int32.toNatClampNeg x3)) &&& 31) ≠ 19 := z_ne c280q
      have ic289q : Int32.toInt ((xs (Int32.toNatClampNeg x3)) &&& 31) ≠ 20 := z_ne c289q
      have ic290q : Int32.toInt ((xs (Int32.toNatClampNeg x3)) &&& 31) ≠ 21 := z_ne c290q
      have ic297q : Int32.toInt ((xs (Int32.toNatClampNeg x3)) &&& 31) ≠ 22 := z_ne c297q
      have ic302q : Int32.toInt ((xs (Int32.toNatClampNeg x3)) &&& 31) ≠ 23 := z_ne c302q
      have ic307q : Int32.toInt ((xs (Int32.toNatClampNeg x3)) &&& 31) ≠ 24 := z_ne c307q
      have ic320q : Int32.toInt ((xs (Int32.toNatClampNeg x3)) &&& 31) ≠ 25 := z_ne c320q
      have ic329q : Int32.toInt ((xs (Int32.toNatClampNeg x3)) &&& 31) ≠ 26 := z_ne c329q
      have ic332q : Int32.toInt ((xs (Int32.toNatClampNeg x3)) &&& 31) ≠ 27 := z_ne c332q
      have ic335q : Int32.toInt ((xs (Int32.toNatClampNeg x3)) &&& 31) ≠ 28 := z_ne c335q
      refine z_tOut hE 987 dL_law_33 (by omega) rfl ?_
      exact b_law_b987 hE hX hret (s_law_L18 xs L n) ih x3 g gm h
