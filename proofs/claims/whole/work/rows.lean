section
-- ===== PART A: goes FIRST, ahead of the names: the tables' words, and 'selects' of the private methods out of them =====
/-- a private method of a class that the tables say can be made, by its rows of tables_1 -/
def lw_okq (q : MethodName × Nat) : Prop := (q.1.cls ≠ "java/lang/invoke/MethodHandle" ∧ q.1.cls ≠ "java/lang/invoke/VarHandle") ∧ Cond.instantiable q.1.cls q.2 ∈ tables_1 ∧ Cond.privateMethod q.1 ∈ tables_1 ∧ Cond.instanceMethod q.1 ∈ tables_1
theorem lw_p0 : lw_okq (⟨"MoodDrawers", "recorded", "(I)I"⟩, 5) := ⟨⟨by decide +kernel, by decide +kernel⟩, List.mem_of_getElem? (i := 13) (by decide +kernel), List.mem_of_getElem? (i := 236) (by decide +kernel), List.mem_of_getElem? (i := 237) (by decide +kernel)⟩
theorem lw_p1 : lw_okq (⟨"MoodDrawers$Regrets", "workOut", "(LMoodDrawers$Desk;I)V"⟩, 1) := ⟨⟨by decide +kernel, by decide +kernel⟩, List.mem_of_getElem? (i := 121) (by decide +kernel), List.mem_of_getElem? (i := 362) (by decide +kernel), List.mem_of_getElem? (i := 363) (by decide +kernel)⟩
theorem lw_p2 : lw_okq (⟨"MoodDrawers$Pad", "readMood", "()Z"⟩, 7) := ⟨⟨by decide +kernel, by decide +kernel⟩, List.mem_of_getElem? (i := 131) (by decide +kernel), List.mem_of_getElem? (i := 505) (by decide +kernel), List.mem_of_getElem? (i := 506) (by decide +kernel)⟩
theorem lw_p3 : lw_okq (⟨"MoodDrawers$Pad", "readFirst", "()Z"⟩, 7) := ⟨⟨by decide +kernel, by decide +kernel⟩, List.mem_of_getElem? (i := 131) (by decide +kernel), List.mem_of_getElem? (i := 510) (by decide +kernel), List.mem_of_getElem? (i := 511) (by decide +kernel)⟩
theorem lw_p4 : lw_okq (⟨"MoodDrawers$Pad", "readNumber", "()I"⟩, 7) := ⟨⟨by decide +kernel, by decide +kernel⟩, List.mem_of_getElem? (i := 131) (by decide +kernel), List.mem_of_getElem? (i := 514) (by decide +kernel), List.mem_of_getElem? (i := 515) (by decide +kernel)⟩
theorem lw_p5 : lw_okq (⟨"MoodDrawers$Pad", "readSecond", "()Z"⟩, 7) := ⟨⟨by decide +kernel, by decide +kernel⟩, List.mem_of_getElem? (i := 131) (by decide +kernel), List.mem_of_getElem? (i := 521) (by decide +kernel), List.mem_of_getElem? (i := 522) (by decide +kernel)⟩
theorem lw_p6 : lw_okq (⟨"MoodDrawers", "carryOutOrders", "()I"⟩, 5) := ⟨⟨by decide +kernel, by decide +kernel⟩, List.mem_of_getElem? (i := 13) (by decide +kernel), List.mem_of_getElem? (i := 529) (by decide +kernel), List.mem_of_getElem? (i := 530) (by decide +kernel)⟩
theorem lw_p7 : lw_okq (⟨"MoodDrawers", "carryOutOrder", "()I"⟩, 5) := ⟨⟨by decide +kernel, by decide +kernel⟩, List.mem_of_getElem? (i := 13) (by decide +kernel), List.mem_of_getElem? (i := 534) (by decide +kernel), List.mem_of_getElem? (i := 535) (by decide +kernel)⟩
theorem lw_p8 : lw_okq (⟨"MoodDrawersModel", "know", "()V"⟩, 16) := ⟨⟨by decide +kernel, by decide +kernel⟩, List.mem_of_getElem? (i := 556) (by decide +kernel), List.mem_of_getElem? (i := 622) (by decide +kernel), List.mem_of_getElem? (i := 623) (by decide +kernel)⟩
theorem lw_p9 : lw_okq (⟨"MoodDrawersModel", "writeFault", "(III)I"⟩, 16) := ⟨⟨by decide +kernel, by decide +kernel⟩, List.mem_of_getElem? (i := 556) (by decide +kernel), List.mem_of_getElem? (i := 630) (by decide +kernel), List.mem_of_getElem? (i := 631) (by decide +kernel)⟩
theorem lw_p10 : lw_okq (⟨"MoodDrawersModel", "isLetter", "(I)Z"⟩, 16) := ⟨⟨by decide +kernel, by decide +kernel⟩, List.mem_of_getElem? (i := 556) (by decide +kernel), List.mem_of_getElem? (i := 637) (by decide +kernel), List.mem_of_getElem? (i := 638) (by decide +kernel)⟩
theorem lw_p11 : lw_okq (⟨"MoodDrawersModel", "many", "(II)I"⟩, 16) := ⟨⟨by decide +kernel, by decide +kernel⟩, List.mem_of_getElem? (i := 556) (by decide +kernel), List.mem_of_getElem? (i := 641) (by decide +kernel), List.mem_of_getElem? (i := 642) (by decide +kernel)⟩
theorem lw_p12 : lw_okq (⟨"MoodDrawersModel", "writes", "(III)I"⟩, 16) := ⟨⟨by decide +kernel, by decide +kernel⟩, List.mem_of_getElem? (i := 556) (by decide +kernel), List.mem_of_getElem? (i := 648) (by decide +kernel), List.mem_of_getElem? (i := 649) (by decide +kernel)⟩
theorem lw_p13 : lw_okq (⟨"MoodDrawersModel", "turns", "(I)I"⟩, 16) := ⟨⟨by decide +kernel, by decide +kernel⟩, List.mem_of_getElem? (i := 556) (by decide +kernel), List.mem_of_getElem? (i := 656) (by decide +kernel), List.mem_of_getElem? (i := 657) (by decide +kernel)⟩
theorem lw_p14 : lw_okq (⟨"MoodDrawersModel", "hoursFault", "(III)I"⟩, 16) := ⟨⟨by decide +kernel, by decide +kernel⟩, List.mem_of_getElem? (i := 556) (by decide +kernel), List.mem_of_getElem? (i := 668) (by decide +kernel), List.mem_of_getElem? (i := 669) (by decide +kernel)⟩
theorem lw_p15 : lw_okq (⟨"MoodDrawersModel", "putsHours", "(III)I"⟩, 16) := ⟨⟨by decide +kernel, by decide +kernel⟩, List.mem_of_getElem? (i := 556) (by decide +kernel), List.mem_of_getElem? (i := 672) (by decide +kernel), List.mem_of_getElem? (i := 673) (by decide +kernel)⟩
def lw_privs_1 : List (MethodName × Nat) := [(⟨"MoodDrawers", "recorded", "(I)I"⟩, 5), (⟨"MoodDrawers$Regrets", "workOut", "(LMoodDrawers$Desk;I)V"⟩, 1), (⟨"MoodDrawers$Pad", "readMood", "()Z"⟩, 7), (⟨"MoodDrawers$Pad", "readFirst", "()Z"⟩, 7), (⟨"MoodDrawers$Pad", "readNumber", "()I"⟩, 7), (⟨"MoodDrawers$Pad", "readSecond", "()Z"⟩, 7), (⟨"MoodDrawers", "carryOutOrders", "()I"⟩, 5), (⟨"MoodDrawers", "carryOutOrder", "()I"⟩, 5), (⟨"MoodDrawersModel", "know", "()V"⟩, 16), (⟨"MoodDrawersModel", "writeFault", "(III)I"⟩, 16), (⟨"MoodDrawersModel", "isLetter", "(I)Z"⟩, 16), (⟨"MoodDrawersModel", "many", "(II)I"⟩, 16), (⟨"MoodDrawersModel", "writes", "(III)I"⟩, 16), (⟨"MoodDrawersModel", "turns", "(I)I"⟩, 16), (⟨"MoodDrawersModel", "hoursFault", "(III)I"⟩, 16), (⟨"MoodDrawersModel", "putsHours", "(III)I"⟩, 16)]
theorem lw_r1 : ∀ q ∈ lw_privs_1, lw_okq q := List.forall_mem_cons.mpr ⟨lw_p0, List.forall_mem_cons.mpr ⟨lw_p1, List.forall_mem_cons.mpr ⟨lw_p2, List.forall_mem_cons.mpr ⟨lw_p3, List.forall_mem_cons.mpr ⟨lw_p4, List.forall_mem_cons.mpr ⟨lw_p5, List.forall_mem_cons.mpr ⟨lw_p6, List.forall_mem_cons.mpr ⟨lw_p7, List.forall_mem_cons.mpr ⟨lw_p8, List.forall_mem_cons.mpr ⟨lw_p9, List.forall_mem_cons.mpr ⟨lw_p10, List.forall_mem_cons.mpr ⟨lw_p11, List.forall_mem_cons.mpr ⟨lw_p12, List.forall_mem_cons.mpr ⟨lw_p13, List.forall_mem_cons.mpr ⟨lw_p14, List.forall_mem_cons.mpr ⟨lw_p15, fun _ h => absurd h List.not_mem_nil⟩⟩⟩⟩⟩⟩⟩⟩⟩⟩⟩⟩⟩⟩⟩⟩
theorem lw_p16 : lw_okq (⟨"MoodDrawersModel", "burnFault", "(I)I"⟩, 16) := ⟨⟨by decide +kernel, by decide +kernel⟩, List.mem_of_getElem? (i := 556) (by decide +kernel), List.mem_of_getElem? (i := 680) (by decide +kernel), List.mem_of_getElem? (i := 681) (by decide +kernel)⟩
theorem lw_p17 : lw_okq (⟨"MoodDrawersModel", "burns", "(I)I"⟩, 16) := ⟨⟨by decide +kernel, by decide +kernel⟩, List.mem_of_getElem? (i := 556) (by decide +kernel), List.mem_of_getElem? (i := 684) (by decide +kernel), List.mem_of_getElem? (i := 685) (by decide +kernel)⟩
theorem lw_p18 : lw_okq (⟨"MoodDrawersModel", "heat", "(I)I"⟩, 16) := ⟨⟨by decide +kernel, by decide +kernel⟩, List.mem_of_getElem? (i := 556) (by decide +kernel), List.mem_of_getElem? (i := 688) (by decide +kernel), List.mem_of_getElem? (i := 689) (by decide +kernel)⟩
theorem lw_p19 : lw_okq (⟨"MoodDrawersModel", "passFault", "(I)I"⟩, 16) := ⟨⟨by decide +kernel, by decide +kernel⟩, List.mem_of_getElem? (i := 556) (by decide +kernel), List.mem_of_getElem? (i := 696) (by decide +kernel), List.mem_of_getElem? (i := 697) (by decide +kernel)⟩
theorem lw_p20 : lw_okq (⟨"MoodDrawersModel", "passes", "(I)I"⟩, 16) := ⟨⟨by decide +kernel, by decide +kernel⟩, List.mem_of_getElem? (i := 556) (by decide +kernel), List.mem_of_getElem? (i := 700) (by decide +kernel), List.mem_of_getElem? (i := 701) (by decide +kernel)⟩
theorem lw_p21 : lw_okq (⟨"MoodDrawersModel", "hour", "()V"⟩, 16) := ⟨⟨by decide +kernel, by decide +kernel⟩, List.mem_of_getElem? (i := 556) (by decide +kernel), List.mem_of_getElem? (i := 704) (by decide +kernel), List.mem_of_getElem? (i := 705) (by decide +kernel)⟩
theorem lw_p22 : lw_okq (⟨"MoodDrawersModel", "wouldGo", "(I)Z"⟩, 16) := ⟨⟨by decide +kernel, by decide +kernel⟩, List.mem_of_getElem? (i := 556) (by decide +kernel), List.mem_of_getElem? (i := 708) (by decide +kernel), List.mem_of_getElem? (i := 709) (by decide +kernel)⟩
theorem lw_p23 : lw_okq (⟨"MoodDrawersModel", "findRegrets", "()V"⟩, 16) := ⟨⟨by decide +kernel, by decide +kernel⟩, List.mem_of_getElem? (i := 556) (by decide +kernel), List.mem_of_getElem? (i := 716) (by decide +kernel), List.mem_of_getElem? (i := 717) (by decide +kernel)⟩
theorem lw_p24 : lw_okq (⟨"MoodDrawersModel", "answering", "(I)I"⟩, 16) := ⟨⟨by decide +kernel, by decide +kernel⟩, List.mem_of_getElem? (i := 556) (by decide +kernel), List.mem_of_getElem? (i := 720) (by decide +kernel), List.mem_of_getElem? (i := 721) (by decide +kernel)⟩
theorem lw_p25 : lw_okq (⟨"MoodDrawersModel", "depth", "(I)I"⟩, 16) := ⟨⟨by decide +kernel, by decide +kernel⟩, List.mem_of_getElem? (i := 556) (by decide +kernel), List.mem_of_getElem? (i := 724) (by decide +kernel), List.mem_of_getElem? (i := 725) (by decide +kernel)⟩
theorem lw_p26 : lw_okq (⟨"MoodDrawersModel", "heatIn", "(I)I"⟩, 16) := ⟨⟨by decide +kernel, by decide +kernel⟩, List.mem_of_getElem? (i := 556) (by decide +kernel), List.mem_of_getElem? (i := 732) (by decide +kernel), List.mem_of_getElem? (i := 733) (by decide +kernel)⟩
theorem lw_p27 : lw_okq (⟨"MoodDrawersModel", "locked", "()I"⟩, 16) := ⟨⟨by decide +kernel, by decide +kernel⟩, List.mem_of_getElem? (i := 556) (by decide +kernel), List.mem_of_getElem? (i := 745) (by decide +kernel), List.mem_of_getElem? (i := 746) (by decide +kernel)⟩
theorem lw_p28 : lw_okq (⟨"MoodDrawersModel", "putAside", "()V"⟩, 16) := ⟨⟨by decide +kernel, by decide +kernel⟩, List.mem_of_getElem? (i := 556) (by decide +kernel), List.mem_of_getElem? (i := 774) (by decide +kernel), List.mem_of_getElem? (i := 775) (by decide +kernel)⟩
theorem lw_p29 : lw_okq (⟨"MoodDrawersModel", "putBack", "()V"⟩, 16) := ⟨⟨by decide +kernel, by decide +kernel⟩, List.mem_of_getElem? (i := 556) (by decide +kernel), List.mem_of_getElem? (i := 778) (by decide +kernel), List.mem_of_getElem? (i := 779) (by decide +kernel)⟩
theorem lw_p30 : lw_okq (⟨"MoodDrawersModel", "go", "(Z)I"⟩, 16) := ⟨⟨by decide +kernel, by decide +kernel⟩, List.mem_of_getElem? (i := 556) (by decide +kernel), List.mem_of_getElem? (i := 808) (by decide +kernel), List.mem_of_getElem? (i := 809) (by decide +kernel)⟩
theorem lw_p31 : lw_okq (⟨"MoodDrawersModel", "order", "()V"⟩, 16) := ⟨⟨by decide +kernel, by decide +kernel⟩, List.mem_of_getElem? (i := 556) (by decide +kernel), List.mem_of_getElem? (i := 812) (by decide +kernel), List.mem_of_getElem? (i := 813) (by decide +kernel)⟩
def lw_privs_2 : List (MethodName × Nat) := [(⟨"MoodDrawersModel", "burnFault", "(I)I"⟩, 16), (⟨"MoodDrawersModel", "burns", "(I)I"⟩, 16), (⟨"MoodDrawersModel", "heat", "(I)I"⟩, 16), (⟨"MoodDrawersModel", "passFault", "(I)I"⟩, 16), (⟨"MoodDrawersModel", "passes", "(I)I"⟩, 16), (⟨"MoodDrawersModel", "hour", "()V"⟩, 16), (⟨"MoodDrawersModel", "wouldGo", "(I)Z"⟩, 16), (⟨"MoodDrawersModel", "findRegrets", "()V"⟩, 16), (⟨"MoodDrawersModel", "answering", "(I)I"⟩, 16), (⟨"MoodDrawersModel", "depth", "(I)I"⟩, 16), (⟨"MoodDrawersModel", "heatIn", "(I)I"⟩, 16), (⟨"MoodDrawersModel", "locked", "()I"⟩, 16), (⟨"MoodDrawersModel", "putAside", "()V"⟩, 16), (⟨"MoodDrawersModel", "putBack", "()V"⟩, 16), (⟨"MoodDrawersModel", "go", "(Z)I"⟩, 16), (⟨"MoodDrawersModel", "order", "()V"⟩, 16)]
theorem lw_r2 : ∀ q ∈ lw_privs_2, lw_okq q := List.forall_mem_cons.mpr ⟨lw_p16, List.forall_mem_cons.mpr ⟨lw_p17, List.forall_mem_cons.mpr ⟨lw_p18, List.forall_mem_cons.mpr ⟨lw_p19, List.forall_mem_cons.mpr ⟨lw_p20, List.forall_mem_cons.mpr ⟨lw_p21, List.forall_mem_cons.mpr ⟨lw_p22, List.forall_mem_cons.mpr ⟨lw_p23, List.forall_mem_cons.mpr ⟨lw_p24, List.forall_mem_cons.mpr ⟨lw_p25, List.forall_mem_cons.mpr ⟨lw_p26, List.forall_mem_cons.mpr ⟨lw_p27, List.forall_mem_cons.mpr ⟨lw_p28, List.forall_mem_cons.mpr ⟨lw_p29, List.forall_mem_cons.mpr ⟨lw_p30, List.forall_mem_cons.mpr ⟨lw_p31, fun _ h => absurd h List.not_mem_nil⟩⟩⟩⟩⟩⟩⟩⟩⟩⟩⟩⟩⟩⟩⟩⟩
theorem lw_p32 : lw_okq (⟨"MoodDrawersModel", "sign", "(II)I"⟩, 16) := ⟨⟨by decide +kernel, by decide +kernel⟩, List.mem_of_getElem? (i := 556) (by decide +kernel), List.mem_of_getElem? (i := 816) (by decide +kernel), List.mem_of_getElem? (i := 817) (by decide +kernel)⟩
theorem lw_p33 : lw_okq (⟨"MoodDrawersModel", "number", "()I"⟩, 16) := ⟨⟨by decide +kernel, by decide +kernel⟩, List.mem_of_getElem? (i := 556) (by decide +kernel), List.mem_of_getElem? (i := 820) (by decide +kernel), List.mem_of_getElem? (i := 821) (by decide +kernel)⟩
theorem lw_p34 : lw_okq (⟨"MoodDrawersModel", "isNext", "(II)Z"⟩, 16) := ⟨⟨by decide +kernel, by decide +kernel⟩, List.mem_of_getElem? (i := 556) (by decide +kernel), List.mem_of_getElem? (i := 824) (by decide +kernel), List.mem_of_getElem? (i := 825) (by decide +kernel)⟩
theorem lw_p35 : lw_okq (⟨"MoodDrawersModel", "does", "()Z"⟩, 16) := ⟨⟨by decide +kernel, by decide +kernel⟩, List.mem_of_getElem? (i := 556) (by decide +kernel), List.mem_of_getElem? (i := 828) (by decide +kernel), List.mem_of_getElem? (i := 829) (by decide +kernel)⟩
def lw_privs_3 : List (MethodName × Nat) := [(⟨"MoodDrawersModel", "sign", "(II)I"⟩, 16), (⟨"MoodDrawersModel", "number", "()I"⟩, 16), (⟨"MoodDrawersModel", "isNext", "(II)Z"⟩, 16), (⟨"MoodDrawersModel", "does", "()Z"⟩, 16)]
theorem lw_r3 : ∀ q ∈ lw_privs_3, lw_okq q := List.forall_mem_cons.mpr ⟨lw_p32, List.forall_mem_cons.mpr ⟨lw_p33, List.forall_mem_cons.mpr ⟨lw_p34, List.forall_mem_cons.mpr ⟨lw_p35, fun _ h => absurd h List.not_mem_nil⟩⟩⟩⟩
def lw_privs : List (MethodName × Nat) := lw_privs_1 ++ (lw_privs_2 ++ (lw_privs_3))
def lw_tbl : List Cond := k2_sels lw_privs ++ tables_1
theorem lw_privs_ok : ∀ q ∈ lw_privs, lw_okq q := by
  show ∀ q ∈ lw_privs_1 ++ (lw_privs_2 ++ (lw_privs_3)), lw_okq q
  exact List.forall_mem_append.mpr ⟨lw_r1, List.forall_mem_append.mpr ⟨lw_r2, lw_r3⟩⟩
/-- the streams that the claim lets the run draw from -/
abbrev lw_cs : List Choice := [Jvm.Choice.named "NaN.bits"]
theorem lw_bits : nanBits ∈ lw_cs := by first | decide | exact List.mem_cons_self | simp [lw_cs, nanBits]
-- ===== end of PART A; then your names; then what follows =====
end
section
/-! ===== BEGIN words of one list among another's, by their places ===== -/
theorem goodIn_r {big : List Cond} (ws : List Cond) (ps : List Nat) (hp : ws = ps.filterMap (fun i => big[i]?)) (h : ws.all goodWord = true) : GoodIn big ws := by
  intro w hw
  have h1 := List.all_eq_true.mp h w hw
  rw [hp] at hw
  obtain ⟨i, -, hi⟩ := List.mem_filterMap.mp hw
  have hm : w ∈ big := by first | exact List.mem_of_getElem? hi | exact List.getElem?_mem hi
  exact ⟨hm, good_of_word h1⟩
theorem goodIn_app {big a b : List Cond} (ha : GoodIn big a) (hb : GoodIn big b) : GoodIn big (a ++ b) := fun w h => (List.mem_append.mp h).elim (ha w) (hb w)
theorem goodIn_ca {big a b : List Cond} {c : Cond} (ha : GoodIn big (c :: a)) (hb : GoodIn big b) : GoodIn big (c :: (a ++ b)) := fun w h => (List.mem_cons.mp h).elim (fun e => ha w (List.mem_cons.mpr (Or.inl e))) (fun h => (List.mem_append.mp h).elim (fun h => ha w (List.mem_cons.mpr (Or.inr h))) (hb w))
theorem goodIn_sub {big ws : List Cond} (hm : ∀ w ∈ ws, w ∈ big) (h : ws.all goodWord = true) : GoodIn big ws := fun w hw => ⟨hm w hw, good_of_word (List.all_eq_true.mp h w hw)⟩
/-! ===== END ===== -/

/-! ===== BEGIN printed: names, fields, word lists, decode rows ===== -/
def RX0 : String := "MoodDrawers$Desk"
def TX0 : u_T := fun k => match k with
  | 0 => ("MoodDrawers$Desk", "settings", "[I", true)
  | 1 => ("MoodDrawers$Desk", "now", "I", false)
  | 2 => ("MoodDrawers$Desk", "drawers", "LMoodDrawers$Drawers;", true)
  | _ => ("MoodDrawers$Desk", "letters", "LMoodDrawers$Letters;", true)
def tyX0 : Nat → FieldType := fun k => match k with
  | 0 => .array .int
  | 1 => .int
  | 2 => .object "MoodDrawers$Drawers"
  | _ => .object "MoodDrawers$Letters"
abbrev wsX00 : List Cond := u_ws RX0 TX0 4
theorem nmX0 : ∀ a, a < 4 → ∀ b, b < 4 → a ≠ b → (TX0 a).2.1 ≠ (TX0 b).2.1 := by decide +kernel
theorem tyX0_ok : ∀ k, k < 4 → parseFieldDescriptor (TX0 k).2.2.1 = some (tyX0 k) := by decide +kernel
abbrev cX0_init : ByteArray := prog_2_method_1_code
def yX0_init : MethodName := ⟨RX0, "<init>", "()V"⟩
abbrev cX0_copyFrom : ByteArray := prog_2_method_2_code
def yX0_copyFrom : MethodName := ⟨RX0, "copyFrom", "(LMoodDrawers$Desk;)V"⟩
abbrev cX0_today : ByteArray := prog_2_method_3_code
def yX0_today : MethodName := ⟨RX0, "today", "()I"⟩
abbrev cX0_hourOfDay : ByteArray := prog_2_method_4_code
def yX0_hourOfDay : MethodName := ⟨RX0, "hourOfDay", "()I"⟩
abbrev cX0_changeSetting : ByteArray := prog_2_method_5_code
def yX0_changeSetting : MethodName := ⟨RX0, "changeSetting", "(II)I"⟩
abbrev cX0_writeLetter : ByteArray := prog_2_method_6_code
def yX0_writeLetter : MethodName := ⟨RX0, "writeLetter", "(III)I"⟩
abbrev cX0_turnKey : ByteArray := prog_2_method_7_code
def yX0_turnKey : MethodName := ⟨RX0, "turnKey", "(I)I"⟩
abbrev cX0_changeRest : ByteArray := prog_2_method_8_code
def yX0_changeRest : MethodName := ⟨RX0, "changeRest", "(II)I"⟩
abbrev cX0_changeHours : ByteArray := prog_2_method_9_code
def yX0_changeHours : MethodName := ⟨RX0, "changeHours", "(III)I"⟩
abbrev cX0_burnLetter : ByteArray := prog_2_method_10_code
def yX0_burnLetter : MethodName := ⟨RX0, "burnLetter", "(I)I"⟩
abbrev cX0_isShut : ByteArray := prog_2_method_11_code
def yX0_isShut : MethodName := ⟨RX0, "isShut", "(I)Z"⟩
abbrev cX0_passHours : ByteArray := prog_2_method_12_code
def yX0_passHours : MethodName := ⟨RX0, "passHours", "(I)I"⟩
abbrev cX0_send : ByteArray := prog_2_method_13_code
def yX0_send : MethodName := ⟨RX0, "send", "(J)I"⟩
abbrev cX0_setThatWouldGo : ByteArray := prog_2_method_14_code
def yX0_setThatWouldGo : MethodName := ⟨RX0, "setThatWouldGo", "()J"⟩
abbrev cX0_readyDay : ByteArray := prog_2_method_15_code
def yX0_readyDay : MethodName := ⟨RX0, "readyDay", "(II)I"⟩
abbrev cX0_heatNow : ByteArray := prog_2_method_16_code
def yX0_heatNow : MethodName := ⟨RX0, "heatNow", "(I)I"⟩
abbrev cX0_heatInDrawer : ByteArray := prog_2_method_17_code
def yX0_heatInDrawer : MethodName := ⟨RX0, "heatInDrawer", "(I)I"⟩
abbrev cX0_hoursTillSent : ByteArray := prog_2_method_18_code
def yX0_hoursTillSent : MethodName := ⟨RX0, "hoursTillSent", "(III)I"⟩
abbrev cX0_sentWithin : ByteArray := prog_2_method_19_code
def yX0_sentWithin : MethodName := ⟨RX0, "sentWithin", "(II)I"⟩
def RX1 : String := "MoodDrawers$Drawers"
def TX1 : u_T := fun k => match k with
  | 0 => ("MoodDrawers$Drawers", "restDays", "[I", true)
  | 1 => ("MoodDrawers$Drawers", "locked", "[I", true)
  | 2 => ("MoodDrawers$Drawers", "unlockHour", "[I", true)
  | _ => ("MoodDrawers$Drawers", "lockHour", "[I", true)
def tyX1 : Nat → FieldType := fun k => match k with
  | 0 => .array .int
  | 1 => .array .int
  | 2 => .array .int
  | _ => .array .int
abbrev wsX10 : List Cond := u_ws RX1 TX1 4
theorem nmX1 : ∀ a, a < 4 → ∀ b, b < 4 → a ≠ b → (TX1 a).2.1 ≠ (TX1 b).2.1 := by decide +kernel
theorem tyX1_ok : ∀ k, k < 4 → parseFieldDescriptor (TX1 k).2.2.1 = some (tyX1 k) := by decide +kernel
abbrev cX1_init : ByteArray := prog_3_method_1_code
def yX1_init : MethodName := ⟨RX1, "<init>", "()V"⟩
abbrev cX1_copyFrom : ByteArray := prog_3_method_2_code
def yX1_copyFrom : MethodName := ⟨RX1, "copyFrom", "(LMoodDrawers$Drawers;)V"⟩
abbrev cX1_howManyLocked : ByteArray := prog_3_method_3_code
def yX1_howManyLocked : MethodName := ⟨RX1, "howManyLocked", "()I"⟩
abbrev cX1_turnKeysBy : ByteArray := prog_3_method_4_code
def yX1_turnKeysBy : MethodName := ⟨RX1, "turnKeysBy", "(I)V"⟩
abbrev cX1_isLockedAt : ByteArray := prog_3_method_5_code
def yX1_isLockedAt : MethodName := ⟨RX1, "isLockedAt", "(III)Z"⟩
def RX2 : String := "MoodDrawers$History"
def TX2 : u_T := fun k => match k with
  | 0 => ("MoodDrawers$History", "rows", "[LMoodDrawers$Desk;", true)
  | _ => ("MoodDrawers$History", "kept", "I", false)
def tyX2 : Nat → FieldType := fun k => match k with
  | 0 => .array (.object "MoodDrawers$Desk")
  | _ => .int
abbrev wsX20 : List Cond := u_ws RX2 TX2 2
theorem nmX2 : ∀ a, a < 2 → ∀ b, b < 2 → a ≠ b → (TX2 a).2.1 ≠ (TX2 b).2.1 := by decide +kernel
theorem tyX2_ok : ∀ k, k < 2 → parseFieldDescriptor (TX2 k).2.2.1 = some (tyX2 k) := by decide +kernel
abbrev cX2_init : ByteArray := prog_4_method_1_code
def yX2_init : MethodName := ⟨RX2, "<init>", "()V"⟩
abbrev cX2_prepare : ByteArray := prog_4_method_2_code
def yX2_prepare : MethodName := ⟨RX2, "prepare", "(LMoodDrawers$Desk;)V"⟩
abbrev cX2_keepPrepared : ByteArray := prog_4_method_3_code
def yX2_keepPrepared : MethodName := ⟨RX2, "keepPrepared", "()V"⟩
abbrev cX2_takeBack : ByteArray := prog_4_method_4_code
def yX2_takeBack : MethodName := ⟨RX2, "takeBack", "(LMoodDrawers$Desk;)Z"⟩
def RX3 : String := "MoodDrawers$Letters"
def TX3 : u_T := fun k => match k with
  | 0 => ("MoodDrawers$Letters", "written", "I", false)
  | 1 => ("MoodDrawers$Letters", "mood", "[I", true)
  | 2 => ("MoodDrawers$Letters", "heat", "[I", true)
  | 3 => ("MoodDrawers$Letters", "writtenOn", "[I", true)
  | 4 => ("MoodDrawers$Letters", "answered", "[I", true)
  | 5 => ("MoodDrawers$Letters", "how", "[I", true)
  | 6 => ("MoodDrawers$Letters", "sentOn", "[I", true)
  | _ => ("MoodDrawers$Letters", "sentHeat", "[I", true)
def tyX3 : Nat → FieldType := fun k => match k with
  | 0 => .int
  | 1 => .array .int
  | 2 => .array .int
  | 3 => .array .int
  | 4 => .array .int
  | 5 => .array .int
  | 6 => .array .int
  | _ => .array .int
abbrev wsX30 : List Cond := u_ws RX3 TX3 8
theorem nmX3 : ∀ a, a < 8 → ∀ b, b < 8 → a ≠ b → (TX3 a).2.1 ≠ (TX3 b).2.1 := by decide +kernel
theorem tyX3_ok : ∀ k, k < 8 → parseFieldDescriptor (TX3 k).2.2.1 = some (tyX3 k) := by decide +kernel
abbrev cX3_init : ByteArray := prog_5_method_1_code
def yX3_init : MethodName := ⟨RX3, "<init>", "()V"⟩
abbrev cX3_copyFrom : ByteArray := prog_5_method_2_code
def yX3_copyFrom : MethodName := ⟨RX3, "copyFrom", "(LMoodDrawers$Letters;)V"⟩
abbrev cX3_isLetter : ByteArray := prog_5_method_3_code
def yX3_isLetter : MethodName := ⟨RX3, "isLetter", "(I)Z"⟩
abbrev cX3_lies : ByteArray := prog_5_method_4_code
def yX3_lies : MethodName := ⟨RX3, "lies", "(II)Z"⟩
abbrev cX3_ofMood : ByteArray := prog_5_method_5_code
def yX3_ofMood : MethodName := ⟨RX3, "ofMood", "(II)I"⟩
abbrev cX3_setOf : ByteArray := prog_5_method_6_code
def yX3_setOf : MethodName := ⟨RX3, "setOf", "(I)J"⟩
abbrev cX3_heatOfSent : ByteArray := prog_5_method_7_code
def yX3_heatOfSent : MethodName := ⟨RX3, "heatOfSent", "()I"⟩
abbrev cX3_answersTo : ByteArray := prog_5_method_8_code
def yX3_answersTo : MethodName := ⟨RX3, "answersTo", "(I)I"⟩
abbrev cX3_depthOf : ByteArray := prog_5_method_9_code
def yX3_depthOf : MethodName := ⟨RX3, "depthOf", "(I)I"⟩
def RX4 : String := "MoodDrawers$Pad"
def TX4 : u_T := fun k => match k with
  | 0 => ("MoodDrawers$Pad", "text", "[C", true)
  | 1 => ("MoodDrawers$Pad", "length", "I", false)
  | 2 => ("MoodDrawers$Pad", "at", "I", false)
  | 3 => ("MoodDrawers$Pad", "kind", "I", false)
  | 4 => ("MoodDrawers$Pad", "mood", "I", false)
  | 5 => ("MoodDrawers$Pad", "first", "I", false)
  | _ => ("MoodDrawers$Pad", "second", "I", false)
def tyX4 : Nat → FieldType := fun k => match k with
  | 0 => .array .char
  | 1 => .int
  | 2 => .int
  | 3 => .int
  | 4 => .int
  | 5 => .int
  | _ => .int
abbrev wsX40 : List Cond := u_ws RX4 TX4 7
theorem nmX4 : ∀ a, a < 7 → ∀ b, b < 7 → a ≠ b → (TX4 a).2.1 ≠ (TX4 b).2.1 := by decide +kernel
theorem tyX4_ok : ∀ k, k < 7 → parseFieldDescriptor (TX4 k).2.2.1 = some (tyX4 k) := by decide +kernel
abbrev cX4_init : ByteArray := prog_6_method_1_code
def yX4_init : MethodName := ⟨RX4, "<init>", "()V"⟩
abbrev cX4_append : ByteArray := prog_6_method_2_code
def yX4_append : MethodName := ⟨RX4, "append", "(C)V"⟩
abbrev cX4_faultIndex : ByteArray := prog_6_method_3_code
def yX4_faultIndex : MethodName := ⟨RX4, "faultIndex", "()I"⟩
abbrev cX4_readOrder : ByteArray := prog_6_method_4_code
def yX4_readOrder : MethodName := ⟨RX4, "readOrder", "()Z"⟩
abbrev cX4_next : ByteArray := prog_6_method_5_code
def yX4_next : MethodName := ⟨RX4, "next", "()C"⟩
abbrev cX4_take : ByteArray := prog_6_method_6_code
def yX4_take : MethodName := ⟨RX4, "take", "(C)Z"⟩
abbrev cX4_readMood : ByteArray := prog_6_method_7_code
def yX4_readMood : MethodName := ⟨RX4, "readMood", "()Z"⟩
abbrev cX4_readFirst : ByteArray := prog_6_method_8_code
def yX4_readFirst : MethodName := ⟨RX4, "readFirst", "()Z"⟩
abbrev cX4_readSecond : ByteArray := prog_6_method_9_code
def yX4_readSecond : MethodName := ⟨RX4, "readSecond", "()Z"⟩
abbrev cX4_readNumber : ByteArray := prog_6_method_10_code
def yX4_readNumber : MethodName := ⟨RX4, "readNumber", "()I"⟩
abbrev cX4_isDigit : ByteArray := prog_6_method_11_code
def yX4_isDigit : MethodName := ⟨RX4, "isDigit", "(C)Z"⟩
def RX5 : String := "MoodDrawers$Regrets"
def TX5 : u_T := fun k => match k with
  | _ => ("MoodDrawers$Regrets", "regret", "[I", true)
def tyX5 : Nat → FieldType := fun k => match k with
  | _ => .array .int
abbrev wsX50 : List Cond := u_ws RX5 TX5 1
theorem nmX5 : ∀ a, a < 1 → ∀ b, b < 1 → a ≠ b → (TX5 a).2.1 ≠ (TX5 b).2.1 := by decide +kernel
theorem tyX5_ok : ∀ k, k < 1 → parseFieldDescriptor (TX5 k).2.2.1 = some (tyX5 k) := by decide +kernel
abbrev cX5_init : ByteArray := prog_7_method_1_code
def yX5_init : MethodName := ⟨RX5, "<init>", "()V"⟩
abbrev cX5_ofSent : ByteArray := prog_7_method_2_code
def yX5_ofSent : MethodName := ⟨RX5, "ofSent", "(LMoodDrawers$Desk;I)I"⟩
abbrev cX5_withSent : ByteArray := prog_7_method_3_code
def yX5_withSent : MethodName := ⟨RX5, "withSent", "(LMoodDrawers$Desk;II)I"⟩
abbrev cX5_greatest : ByteArray := prog_7_method_4_code
def yX5_greatest : MethodName := ⟨RX5, "greatest", "(LMoodDrawers$Desk;)I"⟩
abbrev cX5_workOut : ByteArray := prog_7_method_5_code
def yX5_workOut : MethodName := ⟨RX5, "workOut", "(LMoodDrawers$Desk;I)V"⟩
def RX6 : String := "MoodDrawers"
def TX6 : u_T := fun k => match k with
  | 0 => ("MoodDrawers", "desk", "LMoodDrawers$Desk;", true)
  | 1 => ("MoodDrawers", "regrets", "LMoodDrawers$Regrets;", true)
  | 2 => ("MoodDrawers", "pad", "LMoodDrawers$Pad;", true)
  | 3 => ("MoodDrawers", "history", "LMoodDrawers$History;", true)
  | _ => ("MoodDrawers", "slots", "[LMoodDrawers$Desk;", true)
def tyX6 : Nat → FieldType := fun k => match k with
  | 0 => .object "MoodDrawers$Desk"
  | 1 => .object "MoodDrawers$Regrets"
  | 2 => .object "MoodDrawers$Pad"
  | 3 => .object "MoodDrawers$History"
  | _ => .array (.object "MoodDrawers$Desk")
abbrev wsX60 : List Cond := u_ws RX6 TX6 5
theorem nmX6 : ∀ a, a < 5 → ∀ b, b < 5 → a ≠ b → (TX6 a).2.1 ≠ (TX6 b).2.1 := by decide +kernel
theorem tyX6_ok : ∀ k, k < 5 → parseFieldDescriptor (TX6 k).2.2.1 = some (tyX6 k) := by decide +kernel
abbrev cX6_init : ByteArray := prog_1_method_1_code
def yX6_init : MethodName := ⟨RX6, "<init>", "()V"⟩
abbrev cX6_set : ByteArray := prog_1_method_2_code
def yX6_set : MethodName := ⟨RX6, "set", "(II)I"⟩
abbrev cX6_write : ByteArray := prog_1_method_3_code
def yX6_write : MethodName := ⟨RX6, "write", "(III)I"⟩
abbrev cX6_turn : ByteArray := prog_1_method_4_code
def yX6_turn : MethodName := ⟨RX6, "turn", "(I)I"⟩
abbrev cX6_rest : ByteArray := prog_1_method_5_code
def yX6_rest : MethodName := ⟨RX6, "rest", "(II)I"⟩
abbrev cX6_hours : ByteArray := prog_1_method_6_code
def yX6_hours : MethodName := ⟨RX6, "hours", "(III)I"⟩
abbrev cX6_burn : ByteArray := prog_1_method_7_code
def yX6_burn : MethodName := ⟨RX6, "burn", "(I)I"⟩
abbrev cX6_pass : ByteArray := prog_1_method_8_code
def yX6_pass : MethodName := ⟨RX6, "pass", "(I)I"⟩
abbrev cX6_recorded : ByteArray := prog_1_method_9_code
def yX6_recorded : MethodName := ⟨RX6, "recorded", "(I)I"⟩
abbrev cX6_ofLetter : ByteArray := prog_1_method_10_code
def yX6_ofLetter : MethodName := ⟨RX6, "ofLetter", "(II)I"⟩
abbrev cX6_ofDrawer : ByteArray := prog_1_method_11_code
def yX6_ofDrawer : MethodName := ⟨RX6, "ofDrawer", "(II)I"⟩
abbrev cX6_letters : ByteArray := prog_1_method_12_code
def yX6_letters : MethodName := ⟨RX6, "letters", "(I)J"⟩
abbrev cX6_count : ByteArray := prog_1_method_13_code
def yX6_count : MethodName := ⟨RX6, "count", "(I)I"⟩
abbrev cX6_meanHeat : ByteArray := prog_1_method_14_code
def yX6_meanHeat : MethodName := ⟨RX6, "meanHeat", "()J"⟩
abbrev cX6_share : ByteArray := prog_1_method_15_code
def yX6_share : MethodName := ⟨RX6, "share", "()I"⟩
abbrev cX6_goesIn : ByteArray := prog_1_method_16_code
def yX6_goesIn : MethodName := ⟨RX6, "goesIn", "(I)I"⟩
abbrev cX6_bestPost : ByteArray := prog_1_method_17_code
def yX6_bestPost : MethodName := ⟨RX6, "bestPost", "(II)I"⟩
abbrev cX6_mostRegretted : ByteArray := prog_1_method_18_code
def yX6_mostRegretted : MethodName := ⟨RX6, "mostRegretted", "()I"⟩
abbrev cX6_ifSent : ByteArray := prog_1_method_19_code
def yX6_ifSent : MethodName := ⟨RX6, "ifSent", "(II)I"⟩
abbrev cX6_put : ByteArray := prog_1_method_20_code
def yX6_put : MethodName := ⟨RX6, "put", "(J)I"⟩
abbrev cX6_wipe : ByteArray := prog_1_method_21_code
def yX6_wipe : MethodName := ⟨RX6, "wipe", "()I"⟩
abbrev cX6_fault : ByteArray := prog_1_method_22_code
def yX6_fault : MethodName := ⟨RX6, "fault", "()I"⟩
abbrev cX6_carryOut : ByteArray := prog_1_method_23_code
def yX6_carryOut : MethodName := ⟨RX6, "carryOut", "()I"⟩
abbrev cX6_undo : ByteArray := prog_1_method_24_code
def yX6_undo : MethodName := ⟨RX6, "undo", "()I"⟩
abbrev cX6_save : ByteArray := prog_1_method_25_code
def yX6_save : MethodName := ⟨RX6, "save", "(I)I"⟩
abbrev cX6_restore : ByteArray := prog_1_method_26_code
def yX6_restore : MethodName := ⟨RX6, "restore", "(I)I"⟩
abbrev cX6_carryOutOrders : ByteArray := prog_1_method_27_code
def yX6_carryOutOrders : MethodName := ⟨RX6, "carryOutOrders", "()I"⟩
abbrev cX6_carryOutOrder : ByteArray := prog_1_method_28_code
def yX6_carryOutOrder : MethodName := ⟨RX6, "carryOutOrder", "()I"⟩
abbrev cX6_isMood : ByteArray := prog_1_method_29_code
def yX6_isMood : MethodName := ⟨RX6, "isMood", "(I)Z"⟩
abbrev cX6_isHour : ByteArray := prog_1_method_30_code
def yX6_isHour : MethodName := ⟨RX6, "isHour", "(I)Z"⟩
abbrev cX6_copy : ByteArray := prog_1_method_31_code
def yX6_copy : MethodName := ⟨RX6, "copy", "([I[I)V"⟩
abbrev cX6_charactersIn : ByteArray := prog_1_method_32_code
def yX6_charactersIn : MethodName := ⟨RX6, "charactersIn", "(J)I"⟩
abbrev cX6_bitsOf : ByteArray := prog_1_method_33_code
def yX6_bitsOf : MethodName := ⟨RX6, "bitsOf", "(DII)J"⟩
def RX7 : String := "MoodDrawersModel"
def TX7 : u_T := fun k => match k with
  | 0 => ("MoodDrawersModel", "s", "[I", true)
  | 1 => ("MoodDrawersModel", "aside", "[I", true)
  | 2 => ("MoodDrawersModel", "before", "[I", true)
  | 3 => ("MoodDrawersModel", "known", "I", false)
  | 4 => ("MoodDrawersModel", "slots", "[I", true)
  | 5 => ("MoodDrawersModel", "isSaved", "[Z", true)
  | 6 => ("MoodDrawersModel", "pad", "[I", true)
  | 7 => ("MoodDrawersModel", "length", "I", false)
  | 8 => ("MoodDrawersModel", "regrets", "[I", true)
  | 9 => ("MoodDrawersModel", "greatest", "[I", true)
  | 10 => ("MoodDrawersModel", "place", "I", false)
  | 11 => ("MoodDrawersModel", "isWrong", "Z", false)
  | 12 => ("MoodDrawersModel", "letter", "I", false)
  | 13 => ("MoodDrawersModel", "one", "I", false)
  | 14 => ("MoodDrawersModel", "two", "I", false)
  | _ => ("MoodDrawersModel", "three", "I", false)
def tyX7 : Nat → FieldType := fun k => match k with
  | 0 => .array .int
  | 1 => .array .int
  | 2 => .array .int
  | 3 => .int
  | 4 => .array .int
  | 5 => .array .boolean
  | 6 => .array .int
  | 7 => .int
  | 8 => .array .int
  | 9 => .array .int
  | 10 => .int
  | 11 => .boolean
  | 12 => .int
  | 13 => .int
  | 14 => .int
  | _ => .int
abbrev wsX70 : List Cond := u_ws RX7 TX7 16
theorem nmX7 : ∀ a, a < 16 → ∀ b, b < 16 → a ≠ b → (TX7 a).2.1 ≠ (TX7 b).2.1 := by decide +kernel
theorem tyX7_ok : ∀ k, k < 16 → parseFieldDescriptor (TX7 k).2.2.1 = some (tyX7 k) := by decide +kernel
abbrev cX7_init : ByteArray := prog_9_method_1_code
def yX7_init : MethodName := ⟨RX7, "<init>", "()V"⟩
abbrev cX7_in : ByteArray := prog_9_method_3_code
def yX7_in : MethodName := ⟨RX7, "in", "(III)Z"⟩
abbrev cX7_ofD : ByteArray := prog_9_method_4_code
def yX7_ofD : MethodName := ⟨RX7, "ofD", "(II)I"⟩
abbrev cX7_ofL : ByteArray := prog_9_method_5_code
def yX7_ofL : MethodName := ⟨RX7, "ofL", "(II)I"⟩
abbrev cX7_isMood : ByteArray := prog_9_method_6_code
def yX7_isMood : MethodName := ⟨RX7, "isMood", "(I)Z"⟩
abbrev cX7_isLetter : ByteArray := prog_9_method_7_code
def yX7_isLetter : MethodName := ⟨RX7, "isLetter", "(I)Z"⟩
abbrev cX7_know : ByteArray := prog_9_method_8_code
def yX7_know : MethodName := ⟨RX7, "know", "()V"⟩
abbrev cX7_putAside : ByteArray := prog_9_method_9_code
def yX7_putAside : MethodName := ⟨RX7, "putAside", "()V"⟩
abbrev cX7_putBack : ByteArray := prog_9_method_10_code
def yX7_putBack : MethodName := ⟨RX7, "putBack", "()V"⟩
abbrev cX7_heat : ByteArray := prog_9_method_11_code
def yX7_heat : MethodName := ⟨RX7, "heat", "(I)I"⟩
abbrev cX7_many : ByteArray := prog_9_method_12_code
def yX7_many : MethodName := ⟨RX7, "many", "(II)I"⟩
abbrev cX7_wouldGo : ByteArray := prog_9_method_13_code
def yX7_wouldGo : MethodName := ⟨RX7, "wouldGo", "(I)Z"⟩
abbrev cX7_hour : ByteArray := prog_9_method_14_code
def yX7_hour : MethodName := ⟨RX7, "hour", "()V"⟩
abbrev cX7_findRegrets : ByteArray := prog_9_method_15_code
def yX7_findRegrets : MethodName := ⟨RX7, "findRegrets", "()V"⟩
abbrev cX7_writeFault : ByteArray := prog_9_method_16_code
def yX7_writeFault : MethodName := ⟨RX7, "writeFault", "(III)I"⟩
abbrev cX7_writes : ByteArray := prog_9_method_17_code
def yX7_writes : MethodName := ⟨RX7, "writes", "(III)I"⟩
abbrev cX7_turns : ByteArray := prog_9_method_18_code
def yX7_turns : MethodName := ⟨RX7, "turns", "(I)I"⟩
abbrev cX7_hoursFault : ByteArray := prog_9_method_19_code
def yX7_hoursFault : MethodName := ⟨RX7, "hoursFault", "(III)I"⟩
abbrev cX7_putsHours : ByteArray := prog_9_method_20_code
def yX7_putsHours : MethodName := ⟨RX7, "putsHours", "(III)I"⟩
abbrev cX7_burnFault : ByteArray := prog_9_method_21_code
def yX7_burnFault : MethodName := ⟨RX7, "burnFault", "(I)I"⟩
abbrev cX7_burns : ByteArray := prog_9_method_22_code
def yX7_burns : MethodName := ⟨RX7, "burns", "(I)I"⟩
abbrev cX7_passFault : ByteArray := prog_9_method_23_code
def yX7_passFault : MethodName := ⟨RX7, "passFault", "(I)I"⟩
abbrev cX7_passes : ByteArray := prog_9_method_24_code
def yX7_passes : MethodName := ⟨RX7, "passes", "(I)I"⟩
abbrev cX7_set : ByteArray := prog_9_method_25_code
def yX7_set : MethodName := ⟨RX7, "set", "(II)I"⟩
abbrev cX7_write : ByteArray := prog_9_method_26_code
def yX7_write : MethodName := ⟨RX7, "write", "(III)I"⟩
abbrev cX7_turn : ByteArray := prog_9_method_27_code
def yX7_turn : MethodName := ⟨RX7, "turn", "(I)I"⟩
abbrev cX7_rest : ByteArray := prog_9_method_28_code
def yX7_rest : MethodName := ⟨RX7, "rest", "(II)I"⟩
abbrev cX7_hours : ByteArray := prog_9_method_29_code
def yX7_hours : MethodName := ⟨RX7, "hours", "(III)I"⟩
abbrev cX7_burn : ByteArray := prog_9_method_30_code
def yX7_burn : MethodName := ⟨RX7, "burn", "(I)I"⟩
abbrev cX7_pass : ByteArray := prog_9_method_31_code
def yX7_pass : MethodName := ⟨RX7, "pass", "(I)I"⟩
abbrev cX7_answering : ByteArray := prog_9_method_32_code
def yX7_answering : MethodName := ⟨RX7, "answering", "(I)I"⟩
abbrev cX7_depth : ByteArray := prog_9_method_33_code
def yX7_depth : MethodName := ⟨RX7, "depth", "(I)I"⟩
abbrev cX7_ofLetter : ByteArray := prog_9_method_34_code
def yX7_ofLetter : MethodName := ⟨RX7, "ofLetter", "(II)I"⟩
abbrev cX7_heatIn : ByteArray := prog_9_method_35_code
def yX7_heatIn : MethodName := ⟨RX7, "heatIn", "(I)I"⟩
abbrev cX7_ofDrawer : ByteArray := prog_9_method_36_code
def yX7_ofDrawer : MethodName := ⟨RX7, "ofDrawer", "(II)I"⟩
abbrev cX7_letters : ByteArray := prog_9_method_37_code
def yX7_letters : MethodName := ⟨RX7, "letters", "(I)J"⟩
abbrev cX7_locked : ByteArray := prog_9_method_38_code
def yX7_locked : MethodName := ⟨RX7, "locked", "()I"⟩
abbrev cX7_count : ByteArray := prog_9_method_39_code
def yX7_count : MethodName := ⟨RX7, "count", "(I)I"⟩
abbrev cX7_bitsOf : ByteArray := prog_9_method_40_code
def yX7_bitsOf : MethodName := ⟨RX7, "bitsOf", "(F)I"⟩
abbrev cX7_bitsOfDouble : ByteArray := prog_9_method_41_code
def yX7_bitsOfDouble : MethodName := ⟨RX7, "bitsOfDouble", "(D)J"⟩
abbrev cX7_meanHeat : ByteArray := prog_9_method_42_code
def yX7_meanHeat : MethodName := ⟨RX7, "meanHeat", "()J"⟩
abbrev cX7_share : ByteArray := prog_9_method_43_code
def yX7_share : MethodName := ⟨RX7, "share", "()I"⟩
abbrev cX7_goesIn : ByteArray := prog_9_method_44_code
def yX7_goesIn : MethodName := ⟨RX7, "goesIn", "(I)I"⟩
abbrev cX7_bestPost : ByteArray := prog_9_method_45_code
def yX7_bestPost : MethodName := ⟨RX7, "bestPost", "(II)I"⟩
abbrev cX7_mostRegretted : ByteArray := prog_9_method_46_code
def yX7_mostRegretted : MethodName := ⟨RX7, "mostRegretted", "()I"⟩
abbrev cX7_ifSent : ByteArray := prog_9_method_47_code
def yX7_ifSent : MethodName := ⟨RX7, "ifSent", "(II)I"⟩
abbrev cX7_put : ByteArray := prog_9_method_48_code
def yX7_put : MethodName := ⟨RX7, "put", "(J)I"⟩
abbrev cX7_wipe : ByteArray := prog_9_method_49_code
def yX7_wipe : MethodName := ⟨RX7, "wipe", "()I"⟩
abbrev cX7_sign : ByteArray := prog_9_method_50_code
def yX7_sign : MethodName := ⟨RX7, "sign", "(II)I"⟩
abbrev cX7_isNext : ByteArray := prog_9_method_51_code
def yX7_isNext : MethodName := ⟨RX7, "isNext", "(II)Z"⟩
abbrev cX7_number : ByteArray := prog_9_method_52_code
def yX7_number : MethodName := ⟨RX7, "number", "()I"⟩
abbrev cX7_order : ByteArray := prog_9_method_53_code
def yX7_order : MethodName := ⟨RX7, "order", "()V"⟩
abbrev cX7_does : ByteArray := prog_9_method_54_code
def yX7_does : MethodName := ⟨RX7, "does", "()Z"⟩
abbrev cX7_go : ByteArray := prog_9_method_55_code
def yX7_go : MethodName := ⟨RX7, "go", "(Z)I"⟩
abbrev cX7_fault : ByteArray := prog_9_method_56_code
def yX7_fault : MethodName := ⟨RX7, "fault", "()I"⟩
abbrev cX7_carryOut : ByteArray := prog_9_method_57_code
def yX7_carryOut : MethodName := ⟨RX7, "carryOut", "()I"⟩
abbrev cX7_undo : ByteArray := prog_9_method_58_code
def yX7_undo : MethodName := ⟨RX7, "undo", "()I"⟩
abbrev cX7_save : ByteArray := prog_9_method_59_code
def yX7_save : MethodName := ⟨RX7, "save", "(I)I"⟩
abbrev cX7_restore : ByteArray := prog_9_method_60_code
def yX7_restore : MethodName := ⟨RX7, "restore", "(I)I"⟩
def RJ13 : String := "java/lang/Long"
def TJ13 : u_T := fun k => match k with
  | _ => ("", "", "", false)
def tyJ13 : Nat → FieldType := fun k => match k with
  | _ => .int
abbrev wsJ130 : List Cond := u_ws RJ13 TJ13 0
theorem nmJ13 : ∀ a, a < 0 → ∀ b, b < 0 → a ≠ b → (TJ13 a).2.1 ≠ (TJ13 b).2.1 := by decide +kernel
theorem tyJ13_ok : ∀ k, k < 0 → parseFieldDescriptor (TJ13 k).2.2.1 = some (tyJ13 k) := by decide +kernel
abbrev cJ13_bitCount_95d88 : ByteArray := prog_10_method_50_code
def yJ13_bitCount_95d88 : MethodName := ⟨RJ13, "bitCount", "(J)I"⟩
def RJ9 : String := "java/lang/Math"
def TJ9 : u_T := fun k => match k with
  | _ => ("", "", "", false)
def tyJ9 : Nat → FieldType := fun k => match k with
  | _ => .int
abbrev wsJ90 : List Cond := u_ws RJ9 TJ9 0
theorem nmJ9 : ∀ a, a < 0 → ∀ b, b < 0 → a ≠ b → (TJ9 a).2.1 ≠ (TJ9 b).2.1 := by decide +kernel
theorem tyJ9_ok : ∀ k, k < 0 → parseFieldDescriptor (TJ9 k).2.2.1 = some (tyJ9 k) := by decide +kernel
abbrev cJ9_floorMod_7cf53 : ByteArray := prog_11_method_50_code
def yJ9_floorMod_7cf53 : MethodName := ⟨RJ9, "floorMod", "(II)I"⟩
abbrev cJ9_max_7cf53 : ByteArray := prog_11_method_65_code
def yJ9_max_7cf53 : MethodName := ⟨RJ9, "max", "(II)I"⟩
abbrev cJ9_min_7cf53 : ByteArray := prog_11_method_69_code
def yJ9_min_7cf53 : MethodName := ⟨RJ9, "min", "(II)I"⟩
def RJ10 : String := "java/lang/System"
def TJ10 : u_T := fun k => match k with
  | _ => ("", "", "", false)
def tyJ10 : Nat → FieldType := fun k => match k with
  | _ => .int
abbrev wsJ100 : List Cond := u_ws RJ10 TJ10 0
theorem nmJ10 : ∀ a, a < 0 → ∀ b, b < 0 → a ≠ b → (TJ10 a).2.1 ≠ (TJ10 b).2.1 := by decide +kernel
theorem tyJ10_ok : ∀ k, k < 0 → parseFieldDescriptor (TJ10 k).2.2.1 = some (tyJ10 k) := by decide +kernel
def RL : String := "MoodDrawersLaw"
abbrev cL_law : ByteArray := code
def yL_law : MethodName := ⟨RL, "law", "([I)Z"⟩
def wsX1_init : List Cond := .code yX1_init cX1_init 1 none :: ([.methodLink RX1 3 objectInit, .instanceMethod objectInit, .code objectInit ⟨#[0xb1]⟩ 1 none, .arrayClass .int, .fieldLink RX1 9 "MoodDrawers$Drawers" "restDays" "[I", .fieldLink RX1 15 "MoodDrawers$Drawers" "locked" "[I", .fieldLink RX1 18 "MoodDrawers$Drawers" "unlockHour" "[I", .fieldLink RX1 21 "MoodDrawers$Drawers" "lockHour" "[I"] ++ wsX10)
def wsX3_init : List Cond := .code yX3_init cX3_init 1 none :: ([.methodLink RX3 3 objectInit, .instanceMethod objectInit, .code objectInit ⟨#[0xb1]⟩ 1 none, .arrayClass .int, .fieldLink RX3 9 "MoodDrawers$Letters" "mood" "[I", .fieldLink RX3 15 "MoodDrawers$Letters" "heat" "[I", .fieldLink RX3 18 "MoodDrawers$Letters" "writtenOn" "[I", .fieldLink RX3 21 "MoodDrawers$Letters" "answered" "[I", .fieldLink RX3 24 "MoodDrawers$Letters" "how" "[I", .fieldLink RX3 27 "MoodDrawers$Letters" "sentOn" "[I", .fieldLink RX3 30 "MoodDrawers$Letters" "sentHeat" "[I"] ++ wsX30)
def wsX0_init_r1 : List Cond := [Cond.methodLink RX0 3 objectInit, Cond.instanceMethod objectInit, Cond.code objectInit ⟨#[0xb1]⟩ 1 none, Cond.arrayClass .int, Cond.fieldLink RX0 9 "MoodDrawers$Desk" "settings" "[I", Cond.classLink RX0 15 RX1, Cond.instantiable RX1 4, Cond.initialized RX1, Cond.fieldLink RX0 18 "MoodDrawers$Desk" "drawers" "LMoodDrawers$Drawers;", Cond.classLink RX0 22 RX3, Cond.instantiable RX3 8, Cond.initialized RX3, Cond.fieldLink RX0 25 "MoodDrawers$Desk" "letters" "LMoodDrawers$Letters;", Cond.instanceMethod yX1_init, Cond.code yX1_init cX1_init 1 none, Cond.methodLink RX1 3 objectInit, Cond.fieldLink RX1 9 "MoodDrawers$Drawers" "restDays" "[I", Cond.fieldLink RX1 15 "MoodDrawers$Drawers" "locked" "[I", Cond.fieldLink RX1 18 "MoodDrawers$Drawers" "unlockHour" "[I", Cond.fieldLink RX1 21 "MoodDrawers$Drawers" "lockHour" "[I", Cond.instanceMethod yX3_init, Cond.code yX3_init cX3_init 1 none, Cond.methodLink RX3 3 objectInit, Cond.fieldLink RX3 9 "MoodDrawers$Letters" "mood" "[I"]
def wsX0_init_r2 : List Cond := [Cond.fieldLink RX3 15 "MoodDrawers$Letters" "heat" "[I", Cond.fieldLink RX3 18 "MoodDrawers$Letters" "writtenOn" "[I", Cond.fieldLink RX3 21 "MoodDrawers$Letters" "answered" "[I", Cond.fieldLink RX3 24 "MoodDrawers$Letters" "how" "[I", Cond.fieldLink RX3 27 "MoodDrawers$Letters" "sentOn" "[I", Cond.fieldLink RX3 30 "MoodDrawers$Letters" "sentHeat" "[I"]
def wsX0_init : List Cond := .code yX0_init cX0_init 1 none :: ((wsX0_init_r1 ++ wsX0_init_r2) ++ wsX00 ++ wsX10 ++ wsX30)
def wsX6_copy : List Cond := .code yX6_copy cX6_copy 2 none :: ([.methodLink RX6 251 Lib.Math.min.name, .static Lib.Math.min.name, .initialized "java/lang/Math", .code Lib.Math.min.name Lib.Math.min.code 2 (some .int), .methodLink RX6 256 arraycopyName, .native arraycopyName, .static arraycopyName, .initialized "java/lang/System"])
def wsX1_copyFrom : List Cond := .code yX1_copyFrom cX1_copyFrom 2 none :: ([.fieldLink RX1 9 "MoodDrawers$Drawers" "restDays" "[I", .fieldLink RX1 15 "MoodDrawers$Drawers" "locked" "[I", .fieldLink RX1 18 "MoodDrawers$Drawers" "unlockHour" "[I", .fieldLink RX1 21 "MoodDrawers$Drawers" "lockHour" "[I", .static yX6_copy, .initialized RX6, .code yX6_copy cX6_copy 2 none, .methodLink RX6 251 Lib.Math.min.name, .static Lib.Math.min.name, .initialized "java/lang/Math", .code Lib.Math.min.name Lib.Math.min.code 2 (some .int), .methodLink RX6 256 arraycopyName, .native arraycopyName, .static arraycopyName, .initialized "java/lang/System"] ++ wsX10)
def wsX3_copyFrom : List Cond := .code yX3_copyFrom cX3_copyFrom 2 none :: ([.fieldLink RX3 33 "MoodDrawers$Letters" "written" "I", .fieldLink RX3 9 "MoodDrawers$Letters" "mood" "[I", .fieldLink RX3 15 "MoodDrawers$Letters" "heat" "[I", .fieldLink RX3 18 "MoodDrawers$Letters" "writtenOn" "[I", .fieldLink RX3 21 "MoodDrawers$Letters" "answered" "[I", .fieldLink RX3 24 "MoodDrawers$Letters" "how" "[I", .fieldLink RX3 27 "MoodDrawers$Letters" "sentOn" "[I", .fieldLink RX3 30 "MoodDrawers$Letters" "sentHeat" "[I", .static yX6_copy, .initialized RX6, .code yX6_copy cX6_copy 2 none, .methodLink RX6 251 Lib.Math.min.name, .static Lib.Math.min.name, .initialized "java/lang/Math", .code Lib.Math.min.name Lib.Math.min.code 2 (some .int), .methodLink RX6 256 arraycopyName, .native arraycopyName, .static arraycopyName, .initialized "java/lang/System"] ++ wsX30)
def wsX0_copyFrom_r1 : List Cond := [Cond.fieldLink RX0 9 "MoodDrawers$Desk" "settings" "[I", Cond.fieldLink RX0 33 "MoodDrawers$Desk" "now" "I", Cond.fieldLink RX0 18 "MoodDrawers$Desk" "drawers" "LMoodDrawers$Drawers;", Cond.fieldLink RX0 25 "MoodDrawers$Desk" "letters" "LMoodDrawers$Letters;", Cond.static yX6_copy, Cond.initialized RX6, Cond.code yX6_copy cX6_copy 2 none, Cond.methodLink RX6 251 Lib.Math.min.name, Cond.static Lib.Math.min.name, Cond.initialized "java/lang/Math", Cond.code Lib.Math.min.name Lib.Math.min.code 2 (some .int), Cond.methodLink RX6 256 arraycopyName, Cond.native arraycopyName, Cond.static arraycopyName, Cond.initialized "java/lang/System", Cond.methodLink RX0 37 yX1_copyFrom, Cond.instanceMethod yX1_copyFrom, Cond.selects RX1 yX1_copyFrom yX1_copyFrom, Cond.initialized RX1, Cond.code yX1_copyFrom cX1_copyFrom 2 none, Cond.fieldLink RX1 9 "MoodDrawers$Drawers" "restDays" "[I", Cond.fieldLink RX1 15 "MoodDrawers$Drawers" "locked" "[I", Cond.fieldLink RX1 18 "MoodDrawers$Drawers" "unlockHour" "[I", Cond.fieldLink RX1 21 "MoodDrawers$Drawers" "lockHour" "[I"]
def wsX0_copyFrom_r2 : List Cond := [Cond.methodLink RX0 41 yX3_copyFrom, Cond.instanceMethod yX3_copyFrom, Cond.selects RX3 yX3_copyFrom yX3_copyFrom, Cond.initialized RX3, Cond.code yX3_copyFrom cX3_copyFrom 2 none, Cond.fieldLink RX3 33 "MoodDrawers$Letters" "written" "I", Cond.fieldLink RX3 9 "MoodDrawers$Letters" "mood" "[I", Cond.fieldLink RX3 15 "MoodDrawers$Letters" "heat" "[I", Cond.fieldLink RX3 18 "MoodDrawers$Letters" "writtenOn" "[I", Cond.fieldLink RX3 21 "MoodDrawers$Letters" "answered" "[I", Cond.fieldLink RX3 24 "MoodDrawers$Letters" "how" "[I", Cond.fieldLink RX3 27 "MoodDrawers$Letters" "sentOn" "[I", Cond.fieldLink RX3 30 "MoodDrawers$Letters" "sentHeat" "[I"]
def wsX0_copyFrom : List Cond := .code yX0_copyFrom cX0_copyFrom 2 none :: ((wsX0_copyFrom_r1 ++ wsX0_copyFrom_r2) ++ wsX00 ++ wsX10 ++ wsX30)
def wsX0_today : List Cond := .code yX0_today cX0_today 1 (some .int) :: ([.fieldLink RX0 33 "MoodDrawers$Desk" "now" "I"] ++ wsX00)
def wsX0_hourOfDay : List Cond := .code yX0_hourOfDay cX0_hourOfDay 1 (some .int) :: ([.fieldLink RX0 33 "MoodDrawers$Desk" "now" "I"] ++ wsX00)
def wsX0_changeSetting : List Cond := .code yX0_changeSetting cX0_changeSetting 4 (some .int) :: ([.fieldLink RX0 9 "MoodDrawers$Desk" "settings" "[I"] ++ wsX00)
def wsX6_isMood : List Cond := .code yX6_isMood cX6_isMood 1 (some .boolean) :: ([])
def wsX3_isLetter : List Cond := .code yX3_isLetter cX3_isLetter 2 (some .boolean) :: ([.fieldLink RX3 33 "MoodDrawers$Letters" "written" "I"] ++ wsX30)
def wsX3_ofMood : List Cond := .code yX3_ofMood cX3_ofMood 5 (some .int) :: ([.fieldLink RX3 33 "MoodDrawers$Letters" "written" "I", .fieldLink RX3 9 "MoodDrawers$Letters" "mood" "[I", .fieldLink RX3 24 "MoodDrawers$Letters" "how" "[I"] ++ wsX30)
def wsX0_writeLetter_r1 : List Cond := [Cond.fieldLink RX0 25 "MoodDrawers$Desk" "letters" "LMoodDrawers$Letters;", Cond.fieldLink RX0 54 "MoodDrawers$Letters" "written" "I", Cond.fieldLink RX0 61 "MoodDrawers$Letters" "how" "[I", Cond.fieldLink RX0 64 "MoodDrawers$Letters" "mood" "[I", Cond.fieldLink RX0 67 "MoodDrawers$Letters" "heat" "[I", Cond.fieldLink RX0 70 "MoodDrawers$Letters" "writtenOn" "[I", Cond.fieldLink RX0 77 "MoodDrawers$Letters" "answered" "[I", Cond.fieldLink RX0 80 "MoodDrawers$Letters" "sentOn" "[I", Cond.static yX6_isMood, Cond.initialized RX6, Cond.code yX6_isMood cX6_isMood 1 (some .boolean), Cond.methodLink RX0 51 yX3_isLetter, Cond.instanceMethod yX3_isLetter, Cond.selects RX3 yX3_isLetter yX3_isLetter, Cond.initialized RX3, Cond.code yX3_isLetter cX3_isLetter 2 (some .boolean), Cond.fieldLink RX3 33 "MoodDrawers$Letters" "written" "I", Cond.methodLink RX0 57 yX3_ofMood, Cond.instanceMethod yX3_ofMood, Cond.selects RX3 yX3_ofMood yX3_ofMood, Cond.code yX3_ofMood cX3_ofMood 5 (some .int), Cond.fieldLink RX3 9 "MoodDrawers$Letters" "mood" "[I", Cond.fieldLink RX3 24 "MoodDrawers$Letters" "how" "[I", Cond.methodLink RX0 73 yX0_today]
def wsX0_writeLetter_r2 : List Cond := [Cond.instanceMethod yX0_today, Cond.selects RX0 yX0_today yX0_today, Cond.initialized RX0, Cond.code yX0_today cX0_today 1 (some .int), Cond.fieldLink RX0 33 "MoodDrawers$Desk" "now" "I"]
def wsX0_writeLetter : List Cond := .code yX0_writeLetter cX0_writeLetter 5 (some .int) :: ((wsX0_writeLetter_r1 ++ wsX0_writeLetter_r2) ++ wsX00 ++ wsX30)
def wsX0_turnKey : List Cond := .code yX0_turnKey cX0_turnKey 2 (some .int) :: ([.fieldLink RX0 18 "MoodDrawers$Desk" "drawers" "LMoodDrawers$Drawers;", .fieldLink RX0 83 "MoodDrawers$Drawers" "locked" "[I", .static yX6_isMood, .initialized RX6, .code yX6_isMood cX6_isMood 1 (some .boolean)] ++ wsX00 ++ wsX10)
def wsX0_changeRest : List Cond := .code yX0_changeRest cX0_changeRest 4 (some .int) :: ([.fieldLink RX0 18 "MoodDrawers$Desk" "drawers" "LMoodDrawers$Drawers;", .fieldLink RX0 86 "MoodDrawers$Drawers" "restDays" "[I", .static yX6_isMood, .initialized RX6, .code yX6_isMood cX6_isMood 1 (some .boolean)] ++ wsX00 ++ wsX10)
def wsX6_isHour : List Cond := .code yX6_isHour cX6_isHour 1 (some .boolean) :: ([])
def wsX0_changeHours : List Cond := .code yX0_changeHours cX0_changeHours 5 (some .int) :: ([.fieldLink RX0 18 "MoodDrawers$Desk" "drawers" "LMoodDrawers$Drawers;", .fieldLink RX0 92 "MoodDrawers$Drawers" "unlockHour" "[I", .fieldLink RX0 95 "MoodDrawers$Drawers" "lockHour" "[I", .static yX6_isMood, .initialized RX6, .code yX6_isMood cX6_isMood 1 (some .boolean), .static yX6_isHour, .code yX6_isHour cX6_isHour 1 (some .boolean)] ++ wsX00 ++ wsX10)
def wsX0_isShut : List Cond := .code yX0_isShut cX0_isShut 2 (some .boolean) :: ([.fieldLink RX0 18 "MoodDrawers$Desk" "drawers" "LMoodDrawers$Drawers;", .fieldLink RX0 83 "MoodDrawers$Drawers" "locked" "[I", .static yX6_isMood, .initialized RX6, .code yX6_isMood cX6_isMood 1 (some .boolean)] ++ wsX00 ++ wsX10)
def wsX0_heatNow : List Cond := .code yX0_heatNow cX0_heatNow 3 (some .int) :: ([.fieldLink RX0 25 "MoodDrawers$Desk" "letters" "LMoodDrawers$Letters;", .fieldLink RX0 61 "MoodDrawers$Letters" "how" "[I", .fieldLink RX0 120 "MoodDrawers$Letters" "sentHeat" "[I", .fieldLink RX0 70 "MoodDrawers$Letters" "writtenOn" "[I", .fieldLink RX0 67 "MoodDrawers$Letters" "heat" "[I", .fieldLink RX0 9 "MoodDrawers$Desk" "settings" "[I", .methodLink RX0 136 Lib.Math.max.name, .static Lib.Math.max.name, .initialized "java/lang/Math", .code Lib.Math.max.name Lib.Math.max.code 2 (some .int), .methodLink RX0 73 yX0_today, .instanceMethod yX0_today, .selects RX0 yX0_today yX0_today, .initialized RX0, .code yX0_today cX0_today 1 (some .int), .fieldLink RX0 33 "MoodDrawers$Desk" "now" "I"] ++ wsX00 ++ wsX30)
def wsX0_burnLetter_r1 : List Cond := [Cond.fieldLink RX0 25 "MoodDrawers$Desk" "letters" "LMoodDrawers$Letters;", Cond.fieldLink RX0 61 "MoodDrawers$Letters" "how" "[I", Cond.fieldLink RX0 64 "MoodDrawers$Letters" "mood" "[I", Cond.methodLink RX0 51 yX3_isLetter, Cond.instanceMethod yX3_isLetter, Cond.selects RX3 yX3_isLetter yX3_isLetter, Cond.initialized RX3, Cond.code yX3_isLetter cX3_isLetter 2 (some .boolean), Cond.fieldLink RX3 33 "MoodDrawers$Letters" "written" "I", Cond.methodLink RX0 98 yX0_isShut, Cond.instanceMethod yX0_isShut, Cond.selects RX0 yX0_isShut yX0_isShut, Cond.initialized RX0, Cond.code yX0_isShut cX0_isShut 2 (some .boolean), Cond.fieldLink RX0 18 "MoodDrawers$Desk" "drawers" "LMoodDrawers$Drawers;", Cond.fieldLink RX0 83 "MoodDrawers$Drawers" "locked" "[I", Cond.static yX6_isMood, Cond.initialized RX6, Cond.code yX6_isMood cX6_isMood 1 (some .boolean), Cond.methodLink RX0 101 yX0_heatNow, Cond.instanceMethod yX0_heatNow, Cond.selects RX0 yX0_heatNow yX0_heatNow, Cond.code yX0_heatNow cX0_heatNow 3 (some .int), Cond.fieldLink RX0 120 "MoodDrawers$Letters" "sentHeat" "[I"]
def wsX0_burnLetter_r2 : List Cond := [Cond.fieldLink RX0 70 "MoodDrawers$Letters" "writtenOn" "[I", Cond.fieldLink RX0 67 "MoodDrawers$Letters" "heat" "[I", Cond.fieldLink RX0 9 "MoodDrawers$Desk" "settings" "[I", Cond.methodLink RX0 136 Lib.Math.max.name, Cond.static Lib.Math.max.name, Cond.initialized "java/lang/Math", Cond.code Lib.Math.max.name Lib.Math.max.code 2 (some .int), Cond.methodLink RX0 73 yX0_today, Cond.instanceMethod yX0_today, Cond.selects RX0 yX0_today yX0_today, Cond.code yX0_today cX0_today 1 (some .int), Cond.fieldLink RX0 33 "MoodDrawers$Desk" "now" "I"]
def wsX0_burnLetter : List Cond := .code yX0_burnLetter cX0_burnLetter 2 (some .int) :: ((wsX0_burnLetter_r1 ++ wsX0_burnLetter_r2) ++ wsX00 ++ wsX30 ++ wsX10)
def wsX1_turnKeysBy : List Cond := .code yX1_turnKeysBy cX1_turnKeysBy 3 none :: ([.fieldLink RX1 18 "MoodDrawers$Drawers" "unlockHour" "[I", .fieldLink RX1 15 "MoodDrawers$Drawers" "locked" "[I", .fieldLink RX1 21 "MoodDrawers$Drawers" "lockHour" "[I"] ++ wsX10)
def wsX3_lies : List Cond := .code yX3_lies cX3_lies 3 (some .boolean) :: ([.fieldLink RX3 9 "MoodDrawers$Letters" "mood" "[I", .fieldLink RX3 24 "MoodDrawers$Letters" "how" "[I"] ++ wsX30)
def wsX0_readyDay : List Cond := .code yX0_readyDay cX0_readyDay 6 (some .int) :: ([.fieldLink RX0 25 "MoodDrawers$Desk" "letters" "LMoodDrawers$Letters;", .fieldLink RX0 67 "MoodDrawers$Letters" "heat" "[I", .fieldLink RX0 9 "MoodDrawers$Desk" "settings" "[I", .constant RX0 135 (1000000), .fieldLink RX0 70 "MoodDrawers$Letters" "writtenOn" "[I", .fieldLink RX0 18 "MoodDrawers$Desk" "drawers" "LMoodDrawers$Drawers;", .fieldLink RX0 86 "MoodDrawers$Drawers" "restDays" "[I", .methodLink RX0 136 Lib.Math.max.name, .static Lib.Math.max.name, .initialized "java/lang/Math", .code Lib.Math.max.name Lib.Math.max.code 2 (some .int)] ++ wsX00 ++ wsX30 ++ wsX10)
def wsX0_setThatWouldGo_r1 : List Cond := [Cond.fieldLink RX0 25 "MoodDrawers$Desk" "letters" "LMoodDrawers$Letters;", Cond.fieldLink RX0 54 "MoodDrawers$Letters" "written" "I", Cond.fieldLink RX0 18 "MoodDrawers$Desk" "drawers" "LMoodDrawers$Drawers;", Cond.fieldLink RX0 83 "MoodDrawers$Drawers" "locked" "[I", Cond.methodLink RX0 128 yX3_lies, Cond.instanceMethod yX3_lies, Cond.selects RX3 yX3_lies yX3_lies, Cond.initialized RX3, Cond.code yX3_lies cX3_lies 3 (some .boolean), Cond.fieldLink RX3 9 "MoodDrawers$Letters" "mood" "[I", Cond.fieldLink RX3 24 "MoodDrawers$Letters" "how" "[I", Cond.methodLink RX0 73 yX0_today, Cond.instanceMethod yX0_today, Cond.selects RX0 yX0_today yX0_today, Cond.initialized RX0, Cond.code yX0_today cX0_today 1 (some .int), Cond.fieldLink RX0 33 "MoodDrawers$Desk" "now" "I", Cond.methodLink RX0 132 yX0_readyDay, Cond.instanceMethod yX0_readyDay, Cond.selects RX0 yX0_readyDay yX0_readyDay, Cond.code yX0_readyDay cX0_readyDay 6 (some .int), Cond.fieldLink RX0 67 "MoodDrawers$Letters" "heat" "[I", Cond.fieldLink RX0 9 "MoodDrawers$Desk" "settings" "[I", Cond.constant RX0 135 (1000000)]
def wsX0_setThatWouldGo_r2 : List Cond := [Cond.fieldLink RX0 70 "MoodDrawers$Letters" "writtenOn" "[I", Cond.fieldLink RX0 86 "MoodDrawers$Drawers" "restDays" "[I", Cond.methodLink RX0 136 Lib.Math.max.name, Cond.static Lib.Math.max.name, Cond.initialized "java/lang/Math", Cond.code Lib.Math.max.name Lib.Math.max.code 2 (some .int)]
def wsX0_setThatWouldGo : List Cond := .code yX0_setThatWouldGo cX0_setThatWouldGo 5 (some .long) :: ((wsX0_setThatWouldGo_r1 ++ wsX0_setThatWouldGo_r2) ++ wsX00 ++ wsX30 ++ wsX10)
def wsJ13_bitCount_95d88 : List Cond := .code yJ13_bitCount_95d88 cJ13_bitCount_95d88 2 (some .int) :: ([.constantLong RJ13 314 (6148914691236517205), .constantLong RJ13 316 (3689348814741910323), .constantLong RJ13 318 (1085102592571150095)])
def wsX0_send_r1 : List Cond := [Cond.fieldLink RX0 25 "MoodDrawers$Desk" "letters" "LMoodDrawers$Letters;", Cond.fieldLink RX0 54 "MoodDrawers$Letters" "written" "I", Cond.fieldLink RX0 120 "MoodDrawers$Letters" "sentHeat" "[I", Cond.fieldLink RX0 80 "MoodDrawers$Letters" "sentOn" "[I", Cond.fieldLink RX0 61 "MoodDrawers$Letters" "how" "[I", Cond.methodLink RX0 101 yX0_heatNow, Cond.instanceMethod yX0_heatNow, Cond.selects RX0 yX0_heatNow yX0_heatNow, Cond.initialized RX0, Cond.code yX0_heatNow cX0_heatNow 3 (some .int), Cond.fieldLink RX0 70 "MoodDrawers$Letters" "writtenOn" "[I", Cond.fieldLink RX0 67 "MoodDrawers$Letters" "heat" "[I", Cond.fieldLink RX0 9 "MoodDrawers$Desk" "settings" "[I", Cond.methodLink RX0 136 Lib.Math.max.name, Cond.static Lib.Math.max.name, Cond.initialized "java/lang/Math", Cond.code Lib.Math.max.name Lib.Math.max.code 2 (some .int), Cond.methodLink RX0 73 yX0_today, Cond.instanceMethod yX0_today, Cond.selects RX0 yX0_today yX0_today, Cond.code yX0_today cX0_today 1 (some .int), Cond.fieldLink RX0 33 "MoodDrawers$Desk" "now" "I", Cond.methodLink RX0 123 yJ13_bitCount_95d88, Cond.static yJ13_bitCount_95d88]
def wsX0_send_r2 : List Cond := [Cond.initialized RJ13, Cond.code yJ13_bitCount_95d88 cJ13_bitCount_95d88 2 (some .int), Cond.constantLong RJ13 314 (6148914691236517205), Cond.constantLong RJ13 316 (3689348814741910323), Cond.constantLong RJ13 318 (1085102592571150095)]
def wsX0_send : List Cond := .code yX0_send cX0_send 4 (some .int) :: ((wsX0_send_r1 ++ wsX0_send_r2) ++ wsX00 ++ wsX30)
def wsX0_passHours_r1 : List Cond := [Cond.fieldLink RX0 33 "MoodDrawers$Desk" "now" "I", Cond.fieldLink RX0 18 "MoodDrawers$Desk" "drawers" "LMoodDrawers$Drawers;", Cond.fieldLink RX0 9 "MoodDrawers$Desk" "settings" "[I", Cond.methodLink RX0 105 yX0_hourOfDay, Cond.instanceMethod yX0_hourOfDay, Cond.selects RX0 yX0_hourOfDay yX0_hourOfDay, Cond.initialized RX0, Cond.code yX0_hourOfDay cX0_hourOfDay 1 (some .int), Cond.methodLink RX0 108 yX1_turnKeysBy, Cond.instanceMethod yX1_turnKeysBy, Cond.selects RX1 yX1_turnKeysBy yX1_turnKeysBy, Cond.initialized RX1, Cond.code yX1_turnKeysBy cX1_turnKeysBy 3 none, Cond.fieldLink RX1 18 "MoodDrawers$Drawers" "unlockHour" "[I", Cond.fieldLink RX1 15 "MoodDrawers$Drawers" "locked" "[I", Cond.fieldLink RX1 21 "MoodDrawers$Drawers" "lockHour" "[I", Cond.methodLink RX0 112 yX0_setThatWouldGo, Cond.instanceMethod yX0_setThatWouldGo, Cond.selects RX0 yX0_setThatWouldGo yX0_setThatWouldGo, Cond.code yX0_setThatWouldGo cX0_setThatWouldGo 5 (some .long), Cond.fieldLink RX0 25 "MoodDrawers$Desk" "letters" "LMoodDrawers$Letters;", Cond.fieldLink RX0 54 "MoodDrawers$Letters" "written" "I", Cond.fieldLink RX0 83 "MoodDrawers$Drawers" "locked" "[I", Cond.methodLink RX0 128 yX3_lies]
def wsX0_passHours_r2 : List Cond := [Cond.instanceMethod yX3_lies, Cond.selects RX3 yX3_lies yX3_lies, Cond.initialized RX3, Cond.code yX3_lies cX3_lies 3 (some .boolean), Cond.fieldLink RX3 9 "MoodDrawers$Letters" "mood" "[I", Cond.fieldLink RX3 24 "MoodDrawers$Letters" "how" "[I", Cond.methodLink RX0 73 yX0_today, Cond.instanceMethod yX0_today, Cond.selects RX0 yX0_today yX0_today, Cond.code yX0_today cX0_today 1 (some .int), Cond.methodLink RX0 132 yX0_readyDay, Cond.instanceMethod yX0_readyDay, Cond.selects RX0 yX0_readyDay yX0_readyDay, Cond.code yX0_readyDay cX0_readyDay 6 (some .int), Cond.fieldLink RX0 67 "MoodDrawers$Letters" "heat" "[I", Cond.constant RX0 135 (1000000), Cond.fieldLink RX0 70 "MoodDrawers$Letters" "writtenOn" "[I", Cond.fieldLink RX0 86 "MoodDrawers$Drawers" "restDays" "[I", Cond.methodLink RX0 136 Lib.Math.max.name, Cond.static Lib.Math.max.name, Cond.initialized "java/lang/Math", Cond.code Lib.Math.max.name Lib.Math.max.code 2 (some .int), Cond.methodLink RX0 116 yX0_send, Cond.instanceMethod yX0_send]
def wsX0_passHours_r3 : List Cond := [Cond.selects RX0 yX0_send yX0_send, Cond.code yX0_send cX0_send 4 (some .int), Cond.fieldLink RX0 120 "MoodDrawers$Letters" "sentHeat" "[I", Cond.fieldLink RX0 80 "MoodDrawers$Letters" "sentOn" "[I", Cond.fieldLink RX0 61 "MoodDrawers$Letters" "how" "[I", Cond.methodLink RX0 101 yX0_heatNow, Cond.instanceMethod yX0_heatNow, Cond.selects RX0 yX0_heatNow yX0_heatNow, Cond.code yX0_heatNow cX0_heatNow 3 (some .int), Cond.methodLink RX0 123 yJ13_bitCount_95d88, Cond.static yJ13_bitCount_95d88, Cond.initialized RJ13, Cond.code yJ13_bitCount_95d88 cJ13_bitCount_95d88 2 (some .int), Cond.constantLong RJ13 314 (6148914691236517205), Cond.constantLong RJ13 316 (3689348814741910323), Cond.constantLong RJ13 318 (1085102592571150095)]
def wsX0_passHours : List Cond := .code yX0_passHours cX0_passHours 4 (some .int) :: ((wsX0_passHours_r1 ++ (wsX0_passHours_r2 ++ wsX0_passHours_r3)) ++ wsX00 ++ wsX10 ++ wsX30)
def wsX0_heatInDrawer_r1 : List Cond := [Cond.fieldLink RX0 25 "MoodDrawers$Desk" "letters" "LMoodDrawers$Letters;", Cond.fieldLink RX0 54 "MoodDrawers$Letters" "written" "I", Cond.methodLink RX0 128 yX3_lies, Cond.instanceMethod yX3_lies, Cond.selects RX3 yX3_lies yX3_lies, Cond.initialized RX3, Cond.code yX3_lies cX3_lies 3 (some .boolean), Cond.fieldLink RX3 9 "MoodDrawers$Letters" "mood" "[I", Cond.fieldLink RX3 24 "MoodDrawers$Letters" "how" "[I", Cond.methodLink RX0 101 yX0_heatNow, Cond.instanceMethod yX0_heatNow, Cond.selects RX0 yX0_heatNow yX0_heatNow, Cond.initialized RX0, Cond.code yX0_heatNow cX0_heatNow 3 (some .int), Cond.fieldLink RX0 61 "MoodDrawers$Letters" "how" "[I", Cond.fieldLink RX0 120 "MoodDrawers$Letters" "sentHeat" "[I", Cond.fieldLink RX0 70 "MoodDrawers$Letters" "writtenOn" "[I", Cond.fieldLink RX0 67 "MoodDrawers$Letters" "heat" "[I", Cond.fieldLink RX0 9 "MoodDrawers$Desk" "settings" "[I", Cond.methodLink RX0 136 Lib.Math.max.name, Cond.static Lib.Math.max.name, Cond.initialized "java/lang/Math", Cond.code Lib.Math.max.name Lib.Math.max.code 2 (some .int), Cond.methodLink RX0 73 yX0_today]
def wsX0_heatInDrawer_r2 : List Cond := [Cond.instanceMethod yX0_today, Cond.selects RX0 yX0_today yX0_today, Cond.code yX0_today cX0_today 1 (some .int), Cond.fieldLink RX0 33 "MoodDrawers$Desk" "now" "I"]
def wsX0_heatInDrawer : List Cond := .code yX0_heatInDrawer cX0_heatInDrawer 4 (some .int) :: ((wsX0_heatInDrawer_r1 ++ wsX0_heatInDrawer_r2) ++ wsX00 ++ wsX30)
def wsJ9_floorMod_7cf53 : List Cond := .code yJ9_floorMod_7cf53 cJ9_floorMod_7cf53 3 (some .int) :: ([])
def wsX1_isLockedAt : List Cond := .code yX1_isLockedAt cX1_isLockedAt 6 (some .boolean) :: ([.fieldLink RX1 18 "MoodDrawers$Drawers" "unlockHour" "[I", .fieldLink RX1 15 "MoodDrawers$Drawers" "locked" "[I", .fieldLink RX1 21 "MoodDrawers$Drawers" "lockHour" "[I", .methodLink RX1 34 Lib.Math.min.name, .static Lib.Math.min.name, .initialized "java/lang/Math", .code Lib.Math.min.name Lib.Math.min.code 2 (some .int), .methodLink RX1 28 yJ9_floorMod_7cf53, .static yJ9_floorMod_7cf53, .initialized RJ9, .code yJ9_floorMod_7cf53 cJ9_floorMod_7cf53 3 (some .int)] ++ wsX10)
def wsX0_hoursTillSent_r1 : List Cond := [Cond.fieldLink RX0 25 "MoodDrawers$Desk" "letters" "LMoodDrawers$Letters;", Cond.fieldLink RX0 64 "MoodDrawers$Letters" "mood" "[I", Cond.fieldLink RX0 33 "MoodDrawers$Desk" "now" "I", Cond.methodLink RX0 136 Lib.Math.max.name, Cond.static Lib.Math.max.name, Cond.initialized "java/lang/Math", Cond.code Lib.Math.max.name Lib.Math.max.code 2 (some .int), Cond.fieldLink RX0 18 "MoodDrawers$Desk" "drawers" "LMoodDrawers$Drawers;", Cond.static yX6_isMood, Cond.initialized RX6, Cond.code yX6_isMood cX6_isMood 1 (some .boolean), Cond.methodLink RX0 132 yX0_readyDay, Cond.instanceMethod yX0_readyDay, Cond.selects RX0 yX0_readyDay yX0_readyDay, Cond.initialized RX0, Cond.code yX0_readyDay cX0_readyDay 6 (some .int), Cond.fieldLink RX0 67 "MoodDrawers$Letters" "heat" "[I", Cond.fieldLink RX0 9 "MoodDrawers$Desk" "settings" "[I", Cond.constant RX0 135 (1000000), Cond.fieldLink RX0 70 "MoodDrawers$Letters" "writtenOn" "[I", Cond.fieldLink RX0 86 "MoodDrawers$Drawers" "restDays" "[I", Cond.methodLink RX0 141 yJ9_floorMod_7cf53, Cond.static yJ9_floorMod_7cf53, Cond.initialized RJ9]
def wsX0_hoursTillSent_r2 : List Cond := [Cond.code yJ9_floorMod_7cf53 cJ9_floorMod_7cf53 3 (some .int), Cond.methodLink RX0 144 yX1_isLockedAt, Cond.instanceMethod yX1_isLockedAt, Cond.selects RX1 yX1_isLockedAt yX1_isLockedAt, Cond.initialized RX1, Cond.code yX1_isLockedAt cX1_isLockedAt 6 (some .boolean), Cond.fieldLink RX1 18 "MoodDrawers$Drawers" "unlockHour" "[I", Cond.fieldLink RX1 15 "MoodDrawers$Drawers" "locked" "[I", Cond.fieldLink RX1 21 "MoodDrawers$Drawers" "lockHour" "[I", Cond.methodLink RX1 34 Lib.Math.min.name, Cond.static Lib.Math.min.name, Cond.code Lib.Math.min.name Lib.Math.min.code 2 (some .int), Cond.methodLink RX1 28 yJ9_floorMod_7cf53]
def wsX0_hoursTillSent : List Cond := .code yX0_hoursTillSent cX0_hoursTillSent 8 (some .int) :: ((wsX0_hoursTillSent_r1 ++ wsX0_hoursTillSent_r2) ++ wsX00 ++ wsX30 ++ wsX10)
def wsX0_sentWithin_r1 : List Cond := [Cond.fieldLink RX0 25 "MoodDrawers$Desk" "letters" "LMoodDrawers$Letters;", Cond.fieldLink RX0 54 "MoodDrawers$Letters" "written" "I", Cond.fieldLink RX0 61 "MoodDrawers$Letters" "how" "[I", Cond.methodLink RX0 148 yX0_hoursTillSent, Cond.instanceMethod yX0_hoursTillSent, Cond.selects RX0 yX0_hoursTillSent yX0_hoursTillSent, Cond.initialized RX0, Cond.code yX0_hoursTillSent cX0_hoursTillSent 8 (some .int), Cond.fieldLink RX0 64 "MoodDrawers$Letters" "mood" "[I", Cond.fieldLink RX0 33 "MoodDrawers$Desk" "now" "I", Cond.methodLink RX0 136 Lib.Math.max.name, Cond.static Lib.Math.max.name, Cond.initialized "java/lang/Math", Cond.code Lib.Math.max.name Lib.Math.max.code 2 (some .int), Cond.fieldLink RX0 18 "MoodDrawers$Desk" "drawers" "LMoodDrawers$Drawers;", Cond.static yX6_isMood, Cond.initialized RX6, Cond.code yX6_isMood cX6_isMood 1 (some .boolean), Cond.methodLink RX0 132 yX0_readyDay, Cond.instanceMethod yX0_readyDay, Cond.selects RX0 yX0_readyDay yX0_readyDay, Cond.code yX0_readyDay cX0_readyDay 6 (some .int), Cond.fieldLink RX0 67 "MoodDrawers$Letters" "heat" "[I", Cond.fieldLink RX0 9 "MoodDrawers$Desk" "settings" "[I"]
def wsX0_sentWithin_r2 : List Cond := [Cond.constant RX0 135 (1000000), Cond.fieldLink RX0 70 "MoodDrawers$Letters" "writtenOn" "[I", Cond.fieldLink RX0 86 "MoodDrawers$Drawers" "restDays" "[I", Cond.methodLink RX0 141 yJ9_floorMod_7cf53, Cond.static yJ9_floorMod_7cf53, Cond.initialized RJ9, Cond.code yJ9_floorMod_7cf53 cJ9_floorMod_7cf53 3 (some .int), Cond.methodLink RX0 144 yX1_isLockedAt, Cond.instanceMethod yX1_isLockedAt, Cond.selects RX1 yX1_isLockedAt yX1_isLockedAt, Cond.initialized RX1, Cond.code yX1_isLockedAt cX1_isLockedAt 6 (some .boolean), Cond.fieldLink RX1 18 "MoodDrawers$Drawers" "unlockHour" "[I", Cond.fieldLink RX1 15 "MoodDrawers$Drawers" "locked" "[I", Cond.fieldLink RX1 21 "MoodDrawers$Drawers" "lockHour" "[I", Cond.methodLink RX1 34 Lib.Math.min.name, Cond.static Lib.Math.min.name, Cond.code Lib.Math.min.name Lib.Math.min.code 2 (some .int), Cond.methodLink RX1 28 yJ9_floorMod_7cf53]
def wsX0_sentWithin : List Cond := .code yX0_sentWithin cX0_sentWithin 5 (some .int) :: ((wsX0_sentWithin_r1 ++ wsX0_sentWithin_r2) ++ wsX00 ++ wsX30 ++ wsX10)
def wsX1_howManyLocked : List Cond := .code yX1_howManyLocked cX1_howManyLocked 3 (some .int) :: ([.fieldLink RX1 15 "MoodDrawers$Drawers" "locked" "[I"] ++ wsX10)
def wsX2_init : List Cond := .code yX2_init cX2_init 1 none :: ([.methodLink RX2 3 objectInit, .instanceMethod objectInit, .code objectInit ⟨#[0xb1]⟩ 1 none, .classLink RX2 9 RX0, .fieldLink RX2 11 "MoodDrawers$History" "rows" "[LMoodDrawers$Desk;"] ++ wsX20)
def wsX2_prepare_r1 : List Cond := [Cond.fieldLink RX2 11 "MoodDrawers$History" "rows" "[LMoodDrawers$Desk;", Cond.fieldLink RX2 17 "MoodDrawers$History" "kept" "I", Cond.classLink RX2 9 RX0, Cond.instantiable RX0 4, Cond.initialized RX0, Cond.instanceMethod yX0_init, Cond.code yX0_init cX0_init 1 none, Cond.methodLink RX0 3 objectInit, Cond.instanceMethod objectInit, Cond.code objectInit ⟨#[0xb1]⟩ 1 none, Cond.arrayClass .int, Cond.fieldLink RX0 9 "MoodDrawers$Desk" "settings" "[I", Cond.classLink RX0 15 RX1, Cond.instantiable RX1 4, Cond.initialized RX1, Cond.fieldLink RX0 18 "MoodDrawers$Desk" "drawers" "LMoodDrawers$Drawers;", Cond.classLink RX0 22 RX3, Cond.instantiable RX3 8, Cond.initialized RX3, Cond.fieldLink RX0 25 "MoodDrawers$Desk" "letters" "LMoodDrawers$Letters;", Cond.instanceMethod yX1_init, Cond.code yX1_init cX1_init 1 none, Cond.methodLink RX1 3 objectInit, Cond.fieldLink RX1 9 "MoodDrawers$Drawers" "restDays" "[I"]
def wsX2_prepare_r2 : List Cond := [Cond.fieldLink RX1 15 "MoodDrawers$Drawers" "locked" "[I", Cond.fieldLink RX1 18 "MoodDrawers$Drawers" "unlockHour" "[I", Cond.fieldLink RX1 21 "MoodDrawers$Drawers" "lockHour" "[I", Cond.instanceMethod yX3_init, Cond.code yX3_init cX3_init 1 none, Cond.methodLink RX3 3 objectInit, Cond.fieldLink RX3 9 "MoodDrawers$Letters" "mood" "[I", Cond.fieldLink RX3 15 "MoodDrawers$Letters" "heat" "[I", Cond.fieldLink RX3 18 "MoodDrawers$Letters" "writtenOn" "[I", Cond.fieldLink RX3 21 "MoodDrawers$Letters" "answered" "[I", Cond.fieldLink RX3 24 "MoodDrawers$Letters" "how" "[I", Cond.fieldLink RX3 27 "MoodDrawers$Letters" "sentOn" "[I", Cond.fieldLink RX3 30 "MoodDrawers$Letters" "sentHeat" "[I", Cond.methodLink RX2 22 yX0_copyFrom, Cond.instanceMethod yX0_copyFrom, Cond.selects RX0 yX0_copyFrom yX0_copyFrom, Cond.code yX0_copyFrom cX0_copyFrom 2 none, Cond.fieldLink RX0 33 "MoodDrawers$Desk" "now" "I", Cond.static yX6_copy, Cond.initialized RX6, Cond.code yX6_copy cX6_copy 2 none, Cond.methodLink RX6 251 Lib.Math.min.name, Cond.static Lib.Math.min.name, Cond.initialized "java/lang/Math"]
def wsX2_prepare_r3 : List Cond := [Cond.code Lib.Math.min.name Lib.Math.min.code 2 (some .int), Cond.methodLink RX6 256 arraycopyName, Cond.native arraycopyName, Cond.static arraycopyName, Cond.initialized "java/lang/System", Cond.methodLink RX0 37 yX1_copyFrom, Cond.instanceMethod yX1_copyFrom, Cond.selects RX1 yX1_copyFrom yX1_copyFrom, Cond.code yX1_copyFrom cX1_copyFrom 2 none, Cond.methodLink RX0 41 yX3_copyFrom, Cond.instanceMethod yX3_copyFrom, Cond.selects RX3 yX3_copyFrom yX3_copyFrom, Cond.code yX3_copyFrom cX3_copyFrom 2 none, Cond.fieldLink RX3 33 "MoodDrawers$Letters" "written" "I"]
def wsX2_prepare : List Cond := .code yX2_prepare cX2_prepare 3 none :: ((wsX2_prepare_r1 ++ (wsX2_prepare_r2 ++ wsX2_prepare_r3)) ++ wsX20 ++ wsX00 ++ wsX10 ++ wsX30)
def wsX2_keepPrepared : List Cond := .code yX2_keepPrepared cX2_keepPrepared 3 none :: ([.fieldLink RX2 17 "MoodDrawers$History" "kept" "I", .fieldLink RX2 11 "MoodDrawers$History" "rows" "[LMoodDrawers$Desk;"] ++ wsX20)
def wsX2_takeBack_r1 : List Cond := [Cond.fieldLink RX2 17 "MoodDrawers$History" "kept" "I", Cond.fieldLink RX2 11 "MoodDrawers$History" "rows" "[LMoodDrawers$Desk;", Cond.methodLink RX2 22 yX0_copyFrom, Cond.instanceMethod yX0_copyFrom, Cond.selects RX0 yX0_copyFrom yX0_copyFrom, Cond.initialized RX0, Cond.code yX0_copyFrom cX0_copyFrom 2 none, Cond.fieldLink RX0 9 "MoodDrawers$Desk" "settings" "[I", Cond.fieldLink RX0 33 "MoodDrawers$Desk" "now" "I", Cond.fieldLink RX0 18 "MoodDrawers$Desk" "drawers" "LMoodDrawers$Drawers;", Cond.fieldLink RX0 25 "MoodDrawers$Desk" "letters" "LMoodDrawers$Letters;", Cond.static yX6_copy, Cond.initialized RX6, Cond.code yX6_copy cX6_copy 2 none, Cond.methodLink RX6 251 Lib.Math.min.name, Cond.static Lib.Math.min.name, Cond.initialized "java/lang/Math", Cond.code Lib.Math.min.name Lib.Math.min.code 2 (some .int), Cond.methodLink RX6 256 arraycopyName, Cond.native arraycopyName, Cond.static arraycopyName, Cond.initialized "java/lang/System", Cond.methodLink RX0 37 yX1_copyFrom, Cond.instanceMethod yX1_copyFrom]
def wsX2_takeBack_r2 : List Cond := [Cond.selects RX1 yX1_copyFrom yX1_copyFrom, Cond.initialized RX1, Cond.code yX1_copyFrom cX1_copyFrom 2 none, Cond.fieldLink RX1 9 "MoodDrawers$Drawers" "restDays" "[I", Cond.fieldLink RX1 15 "MoodDrawers$Drawers" "locked" "[I", Cond.fieldLink RX1 18 "MoodDrawers$Drawers" "unlockHour" "[I", Cond.fieldLink RX1 21 "MoodDrawers$Drawers" "lockHour" "[I", Cond.methodLink RX0 41 yX3_copyFrom, Cond.instanceMethod yX3_copyFrom, Cond.selects RX3 yX3_copyFrom yX3_copyFrom, Cond.initialized RX3, Cond.code yX3_copyFrom cX3_copyFrom 2 none, Cond.fieldLink RX3 33 "MoodDrawers$Letters" "written" "I", Cond.fieldLink RX3 9 "MoodDrawers$Letters" "mood" "[I", Cond.fieldLink RX3 15 "MoodDrawers$Letters" "heat" "[I", Cond.fieldLink RX3 18 "MoodDrawers$Letters" "writtenOn" "[I", Cond.fieldLink RX3 21 "MoodDrawers$Letters" "answered" "[I", Cond.fieldLink RX3 24 "MoodDrawers$Letters" "how" "[I", Cond.fieldLink RX3 27 "MoodDrawers$Letters" "sentOn" "[I", Cond.fieldLink RX3 30 "MoodDrawers$Letters" "sentHeat" "[I"]
def wsX2_takeBack : List Cond := .code yX2_takeBack cX2_takeBack 3 (some .boolean) :: ((wsX2_takeBack_r1 ++ wsX2_takeBack_r2) ++ wsX20 ++ wsX00 ++ wsX10 ++ wsX30)
def wsX3_setOf : List Cond := .code yX3_setOf cX3_setOf 5 (some .long) :: ([.fieldLink RX3 33 "MoodDrawers$Letters" "written" "I", .fieldLink RX3 24 "MoodDrawers$Letters" "how" "[I"] ++ wsX30)
def wsX3_heatOfSent : List Cond := .code yX3_heatOfSent cX3_heatOfSent 3 (some .int) :: ([.fieldLink RX3 33 "MoodDrawers$Letters" "written" "I", .fieldLink RX3 24 "MoodDrawers$Letters" "how" "[I", .fieldLink RX3 30 "MoodDrawers$Letters" "sentHeat" "[I"] ++ wsX30)
def wsX3_answersTo : List Cond := .code yX3_answersTo cX3_answersTo 4 (some .int) :: ([.fieldLink RX3 33 "MoodDrawers$Letters" "written" "I", .fieldLink RX3 21 "MoodDrawers$Letters" "answered" "[I"] ++ wsX30)
def wsX3_depthOf : List Cond := .code yX3_depthOf cX3_depthOf 4 (some .int) :: ([.fieldLink RX3 21 "MoodDrawers$Letters" "answered" "[I", .methodLink RX3 41 yX3_isLetter, .instanceMethod yX3_isLetter, .selects RX3 yX3_isLetter yX3_isLetter, .initialized RX3, .code yX3_isLetter cX3_isLetter 2 (some .boolean), .fieldLink RX3 33 "MoodDrawers$Letters" "written" "I"] ++ wsX30)
def wsX4_init : List Cond := .code yX4_init cX4_init 1 none :: ([.methodLink RX4 3 objectInit, .instanceMethod objectInit, .code objectInit ⟨#[0xb1]⟩ 1 none, .arrayClass .char, .fieldLink RX4 9 "MoodDrawers$Pad" "text" "[C"] ++ wsX40)
def wsX4_append : List Cond := .code yX4_append cX4_append 2 none :: ([.fieldLink RX4 15 "MoodDrawers$Pad" "length" "I", .fieldLink RX4 9 "MoodDrawers$Pad" "text" "[C"] ++ wsX40)
def wsX4_next : List Cond := .code yX4_next cX4_next 1 (some .char) :: ([.fieldLink RX4 19 "MoodDrawers$Pad" "at" "I", .fieldLink RX4 15 "MoodDrawers$Pad" "length" "I", .fieldLink RX4 9 "MoodDrawers$Pad" "text" "[C"] ++ wsX40)
def wsX4_take : List Cond := .code yX4_take cX4_take 2 (some .boolean) :: ([.fieldLink RX4 19 "MoodDrawers$Pad" "at" "I", .methodLink RX4 30 yX4_next, .instanceMethod yX4_next, .selects RX4 yX4_next yX4_next, .initialized RX4, .code yX4_next cX4_next 1 (some .char), .fieldLink RX4 15 "MoodDrawers$Pad" "length" "I", .fieldLink RX4 9 "MoodDrawers$Pad" "text" "[C"] ++ wsX40)
def wsX4_readMood : List Cond := .code yX4_readMood cX4_readMood 1 (some .boolean) :: ([.fieldLink RX4 49 "MoodDrawers$Pad" "mood" "I", .fieldLink RX4 19 "MoodDrawers$Pad" "at" "I", .methodLink RX4 30 yX4_next, .instanceMethod yX4_next, .selects RX4 yX4_next yX4_next, .initialized RX4, .code yX4_next cX4_next 1 (some .char), .fieldLink RX4 15 "MoodDrawers$Pad" "length" "I", .fieldLink RX4 9 "MoodDrawers$Pad" "text" "[C", .static yX6_isMood, .initialized RX6, .code yX6_isMood cX6_isMood 1 (some .boolean)] ++ wsX40)
def wsX4_isDigit : List Cond := .code yX4_isDigit cX4_isDigit 1 (some .boolean) :: ([])
def wsX4_readNumber : List Cond := .code yX4_readNumber cX4_readNumber 2 (some .int) :: ([.fieldLink RX4 19 "MoodDrawers$Pad" "at" "I", .methodLink RX4 30 yX4_next, .instanceMethod yX4_next, .selects RX4 yX4_next yX4_next, .initialized RX4, .code yX4_next cX4_next 1 (some .char), .fieldLink RX4 15 "MoodDrawers$Pad" "length" "I", .fieldLink RX4 9 "MoodDrawers$Pad" "text" "[C", .methodLink RX4 63 yX4_isDigit, .static yX4_isDigit, .code yX4_isDigit cX4_isDigit 1 (some .boolean)] ++ wsX40)
def wsX4_readFirst : List Cond := .code yX4_readFirst cX4_readFirst 1 (some .boolean) :: ([.fieldLink RX4 60 "MoodDrawers$Pad" "first" "I", .methodLink RX4 56 yX4_readNumber, .instanceMethod yX4_readNumber, .selects RX4 yX4_readNumber yX4_readNumber, .initialized RX4, .code yX4_readNumber cX4_readNumber 2 (some .int), .fieldLink RX4 19 "MoodDrawers$Pad" "at" "I", .methodLink RX4 30 yX4_next, .instanceMethod yX4_next, .selects RX4 yX4_next yX4_next, .code yX4_next cX4_next 1 (some .char), .fieldLink RX4 15 "MoodDrawers$Pad" "length" "I", .fieldLink RX4 9 "MoodDrawers$Pad" "text" "[C", .methodLink RX4 63 yX4_isDigit, .static yX4_isDigit, .code yX4_isDigit cX4_isDigit 1 (some .boolean)] ++ wsX40)
def wsX4_readSecond : List Cond := .code yX4_readSecond cX4_readSecond 1 (some .boolean) :: ([.fieldLink RX4 37 "MoodDrawers$Pad" "second" "I", .methodLink RX4 56 yX4_readNumber, .instanceMethod yX4_readNumber, .selects RX4 yX4_readNumber yX4_readNumber, .initialized RX4, .code yX4_readNumber cX4_readNumber 2 (some .int), .fieldLink RX4 19 "MoodDrawers$Pad" "at" "I", .methodLink RX4 30 yX4_next, .instanceMethod yX4_next, .selects RX4 yX4_next yX4_next, .code yX4_next cX4_next 1 (some .char), .fieldLink RX4 15 "MoodDrawers$Pad" "length" "I", .fieldLink RX4 9 "MoodDrawers$Pad" "text" "[C", .methodLink RX4 63 yX4_isDigit, .static yX4_isDigit, .code yX4_isDigit cX4_isDigit 1 (some .boolean)] ++ wsX40)
def wsX4_readOrder_r1 : List Cond := [Cond.fieldLink RX4 34 "MoodDrawers$Pad" "kind" "I", Cond.fieldLink RX4 37 "MoodDrawers$Pad" "second" "I", Cond.methodLink RX4 30 yX4_next, Cond.instanceMethod yX4_next, Cond.selects RX4 yX4_next yX4_next, Cond.initialized RX4, Cond.code yX4_next cX4_next 1 (some .char), Cond.fieldLink RX4 19 "MoodDrawers$Pad" "at" "I", Cond.fieldLink RX4 15 "MoodDrawers$Pad" "length" "I", Cond.fieldLink RX4 9 "MoodDrawers$Pad" "text" "[C", Cond.methodLink RX4 26 yX4_take, Cond.instanceMethod yX4_take, Cond.selects RX4 yX4_take yX4_take, Cond.code yX4_take cX4_take 2 (some .boolean), Cond.methodLink RX4 40 yX4_readMood, Cond.instanceMethod yX4_readMood, Cond.selects RX4 yX4_readMood yX4_readMood, Cond.code yX4_readMood cX4_readMood 1 (some .boolean), Cond.fieldLink RX4 49 "MoodDrawers$Pad" "mood" "I", Cond.static yX6_isMood, Cond.initialized RX6, Cond.code yX6_isMood cX6_isMood 1 (some .boolean), Cond.methodLink RX4 43 yX4_readFirst, Cond.instanceMethod yX4_readFirst]
def wsX4_readOrder_r2 : List Cond := [Cond.selects RX4 yX4_readFirst yX4_readFirst, Cond.code yX4_readFirst cX4_readFirst 1 (some .boolean), Cond.fieldLink RX4 60 "MoodDrawers$Pad" "first" "I", Cond.methodLink RX4 56 yX4_readNumber, Cond.instanceMethod yX4_readNumber, Cond.selects RX4 yX4_readNumber yX4_readNumber, Cond.code yX4_readNumber cX4_readNumber 2 (some .int), Cond.methodLink RX4 63 yX4_isDigit, Cond.static yX4_isDigit, Cond.code yX4_isDigit cX4_isDigit 1 (some .boolean), Cond.methodLink RX4 46 yX4_readSecond, Cond.instanceMethod yX4_readSecond, Cond.selects RX4 yX4_readSecond yX4_readSecond, Cond.code yX4_readSecond cX4_readSecond 1 (some .boolean)]
def wsX4_readOrder : List Cond := .code yX4_readOrder cX4_readOrder 1 (some .boolean) :: ((wsX4_readOrder_r1 ++ wsX4_readOrder_r2) ++ wsX40)
def wsX4_faultIndex_r1 : List Cond := [Cond.fieldLink RX4 19 "MoodDrawers$Pad" "at" "I", Cond.fieldLink RX4 15 "MoodDrawers$Pad" "length" "I", Cond.methodLink RX4 22 yX4_readOrder, Cond.instanceMethod yX4_readOrder, Cond.selects RX4 yX4_readOrder yX4_readOrder, Cond.initialized RX4, Cond.code yX4_readOrder cX4_readOrder 1 (some .boolean), Cond.fieldLink RX4 34 "MoodDrawers$Pad" "kind" "I", Cond.fieldLink RX4 37 "MoodDrawers$Pad" "second" "I", Cond.methodLink RX4 30 yX4_next, Cond.instanceMethod yX4_next, Cond.selects RX4 yX4_next yX4_next, Cond.code yX4_next cX4_next 1 (some .char), Cond.fieldLink RX4 9 "MoodDrawers$Pad" "text" "[C", Cond.methodLink RX4 26 yX4_take, Cond.instanceMethod yX4_take, Cond.selects RX4 yX4_take yX4_take, Cond.code yX4_take cX4_take 2 (some .boolean), Cond.methodLink RX4 40 yX4_readMood, Cond.instanceMethod yX4_readMood, Cond.selects RX4 yX4_readMood yX4_readMood, Cond.code yX4_readMood cX4_readMood 1 (some .boolean), Cond.fieldLink RX4 49 "MoodDrawers$Pad" "mood" "I", Cond.static yX6_isMood]
def wsX4_faultIndex_r2 : List Cond := [Cond.initialized RX6, Cond.code yX6_isMood cX6_isMood 1 (some .boolean), Cond.methodLink RX4 43 yX4_readFirst, Cond.instanceMethod yX4_readFirst, Cond.selects RX4 yX4_readFirst yX4_readFirst, Cond.code yX4_readFirst cX4_readFirst 1 (some .boolean), Cond.fieldLink RX4 60 "MoodDrawers$Pad" "first" "I", Cond.methodLink RX4 56 yX4_readNumber, Cond.instanceMethod yX4_readNumber, Cond.selects RX4 yX4_readNumber yX4_readNumber, Cond.code yX4_readNumber cX4_readNumber 2 (some .int), Cond.methodLink RX4 63 yX4_isDigit, Cond.static yX4_isDigit, Cond.code yX4_isDigit cX4_isDigit 1 (some .boolean), Cond.methodLink RX4 46 yX4_readSecond, Cond.instanceMethod yX4_readSecond, Cond.selects RX4 yX4_readSecond yX4_readSecond, Cond.code yX4_readSecond cX4_readSecond 1 (some .boolean)]
def wsX4_faultIndex : List Cond := .code yX4_faultIndex cX4_faultIndex 2 (some .int) :: ((wsX4_faultIndex_r1 ++ wsX4_faultIndex_r2) ++ wsX40)
def wsX5_init : List Cond := .code yX5_init cX5_init 1 none :: ([.methodLink RX5 3 objectInit, .instanceMethod objectInit, .code objectInit ⟨#[0xb1]⟩ 1 none, .arrayClass .int, .fieldLink RX5 9 "MoodDrawers$Regrets" "regret" "[I"] ++ wsX50)
def wsX5_workOut_r1 : List Cond := [Cond.fieldLink RX5 19 "MoodDrawers$Desk" "letters" "LMoodDrawers$Letters;", Cond.fieldLink RX5 9 "MoodDrawers$Regrets" "regret" "[I", Cond.fieldLink RX5 25 "MoodDrawers$Letters" "written" "I", Cond.fieldLink RX5 31 "MoodDrawers$Letters" "how" "[I", Cond.fieldLink RX5 38 "MoodDrawers$Letters" "answered" "[I", Cond.methodLink RX5 45 Lib.Math.max.name, Cond.static Lib.Math.max.name, Cond.initialized "java/lang/Math", Cond.code Lib.Math.max.name Lib.Math.max.code 2 (some .int), Cond.methodLink RX5 34 yX0_heatNow, Cond.instanceMethod yX0_heatNow, Cond.selects RX0 yX0_heatNow yX0_heatNow, Cond.initialized RX0, Cond.code yX0_heatNow cX0_heatNow 3 (some .int), Cond.fieldLink RX0 25 "MoodDrawers$Desk" "letters" "LMoodDrawers$Letters;", Cond.fieldLink RX0 61 "MoodDrawers$Letters" "how" "[I", Cond.fieldLink RX0 120 "MoodDrawers$Letters" "sentHeat" "[I", Cond.fieldLink RX0 70 "MoodDrawers$Letters" "writtenOn" "[I", Cond.fieldLink RX0 67 "MoodDrawers$Letters" "heat" "[I", Cond.fieldLink RX0 9 "MoodDrawers$Desk" "settings" "[I", Cond.methodLink RX0 136 Lib.Math.max.name, Cond.methodLink RX0 73 yX0_today, Cond.instanceMethod yX0_today, Cond.selects RX0 yX0_today yX0_today]
def wsX5_workOut_r2 : List Cond := [Cond.code yX0_today cX0_today 1 (some .int), Cond.fieldLink RX0 33 "MoodDrawers$Desk" "now" "I", Cond.methodLink RX5 41 yX3_isLetter, Cond.instanceMethod yX3_isLetter, Cond.selects RX3 yX3_isLetter yX3_isLetter, Cond.initialized RX3, Cond.code yX3_isLetter cX3_isLetter 2 (some .boolean), Cond.fieldLink RX3 33 "MoodDrawers$Letters" "written" "I"]
def wsX5_workOut : List Cond := .code yX5_workOut cX5_workOut 6 none :: ((wsX5_workOut_r1 ++ wsX5_workOut_r2) ++ wsX00 ++ wsX50 ++ wsX30)
def wsX5_ofSent_r1 : List Cond := [Cond.fieldLink RX5 9 "MoodDrawers$Regrets" "regret" "[I", Cond.methodLink RX5 15 yX5_workOut, Cond.instanceMethod yX5_workOut, Cond.selects RX5 yX5_workOut yX5_workOut, Cond.initialized RX5, Cond.code yX5_workOut cX5_workOut 6 none, Cond.fieldLink RX5 19 "MoodDrawers$Desk" "letters" "LMoodDrawers$Letters;", Cond.fieldLink RX5 25 "MoodDrawers$Letters" "written" "I", Cond.fieldLink RX5 31 "MoodDrawers$Letters" "how" "[I", Cond.fieldLink RX5 38 "MoodDrawers$Letters" "answered" "[I", Cond.methodLink RX5 45 Lib.Math.max.name, Cond.static Lib.Math.max.name, Cond.initialized "java/lang/Math", Cond.code Lib.Math.max.name Lib.Math.max.code 2 (some .int), Cond.methodLink RX5 34 yX0_heatNow, Cond.instanceMethod yX0_heatNow, Cond.selects RX0 yX0_heatNow yX0_heatNow, Cond.initialized RX0, Cond.code yX0_heatNow cX0_heatNow 3 (some .int), Cond.fieldLink RX0 25 "MoodDrawers$Desk" "letters" "LMoodDrawers$Letters;", Cond.fieldLink RX0 61 "MoodDrawers$Letters" "how" "[I", Cond.fieldLink RX0 120 "MoodDrawers$Letters" "sentHeat" "[I", Cond.fieldLink RX0 70 "MoodDrawers$Letters" "writtenOn" "[I", Cond.fieldLink RX0 67 "MoodDrawers$Letters" "heat" "[I"]
def wsX5_ofSent_r2 : List Cond := [Cond.fieldLink RX0 9 "MoodDrawers$Desk" "settings" "[I", Cond.methodLink RX0 136 Lib.Math.max.name, Cond.methodLink RX0 73 yX0_today, Cond.instanceMethod yX0_today, Cond.selects RX0 yX0_today yX0_today, Cond.code yX0_today cX0_today 1 (some .int), Cond.fieldLink RX0 33 "MoodDrawers$Desk" "now" "I", Cond.methodLink RX5 41 yX3_isLetter, Cond.instanceMethod yX3_isLetter, Cond.selects RX3 yX3_isLetter yX3_isLetter, Cond.initialized RX3, Cond.code yX3_isLetter cX3_isLetter 2 (some .boolean), Cond.fieldLink RX3 33 "MoodDrawers$Letters" "written" "I"]
def wsX5_ofSent : List Cond := .code yX5_ofSent cX5_ofSent 3 (some .int) :: ((wsX5_ofSent_r1 ++ wsX5_ofSent_r2) ++ wsX50 ++ wsX00 ++ wsX30)
def wsX5_withSent_r1 : List Cond := [Cond.fieldLink RX5 9 "MoodDrawers$Regrets" "regret" "[I", Cond.methodLink RX5 15 yX5_workOut, Cond.instanceMethod yX5_workOut, Cond.selects RX5 yX5_workOut yX5_workOut, Cond.initialized RX5, Cond.code yX5_workOut cX5_workOut 6 none, Cond.fieldLink RX5 19 "MoodDrawers$Desk" "letters" "LMoodDrawers$Letters;", Cond.fieldLink RX5 25 "MoodDrawers$Letters" "written" "I", Cond.fieldLink RX5 31 "MoodDrawers$Letters" "how" "[I", Cond.fieldLink RX5 38 "MoodDrawers$Letters" "answered" "[I", Cond.methodLink RX5 45 Lib.Math.max.name, Cond.static Lib.Math.max.name, Cond.initialized "java/lang/Math", Cond.code Lib.Math.max.name Lib.Math.max.code 2 (some .int), Cond.methodLink RX5 34 yX0_heatNow, Cond.instanceMethod yX0_heatNow, Cond.selects RX0 yX0_heatNow yX0_heatNow, Cond.initialized RX0, Cond.code yX0_heatNow cX0_heatNow 3 (some .int), Cond.fieldLink RX0 25 "MoodDrawers$Desk" "letters" "LMoodDrawers$Letters;", Cond.fieldLink RX0 61 "MoodDrawers$Letters" "how" "[I", Cond.fieldLink RX0 120 "MoodDrawers$Letters" "sentHeat" "[I", Cond.fieldLink RX0 70 "MoodDrawers$Letters" "writtenOn" "[I", Cond.fieldLink RX0 67 "MoodDrawers$Letters" "heat" "[I"]
def wsX5_withSent_r2 : List Cond := [Cond.fieldLink RX0 9 "MoodDrawers$Desk" "settings" "[I", Cond.methodLink RX0 136 Lib.Math.max.name, Cond.methodLink RX0 73 yX0_today, Cond.instanceMethod yX0_today, Cond.selects RX0 yX0_today yX0_today, Cond.code yX0_today cX0_today 1 (some .int), Cond.fieldLink RX0 33 "MoodDrawers$Desk" "now" "I", Cond.methodLink RX5 41 yX3_isLetter, Cond.instanceMethod yX3_isLetter, Cond.selects RX3 yX3_isLetter yX3_isLetter, Cond.initialized RX3, Cond.code yX3_isLetter cX3_isLetter 2 (some .boolean), Cond.fieldLink RX3 33 "MoodDrawers$Letters" "written" "I"]
def wsX5_withSent : List Cond := .code yX5_withSent cX5_withSent 4 (some .int) :: ((wsX5_withSent_r1 ++ wsX5_withSent_r2) ++ wsX50 ++ wsX00 ++ wsX30)
def wsX5_greatest_r1 : List Cond := [Cond.fieldLink RX5 19 "MoodDrawers$Desk" "letters" "LMoodDrawers$Letters;", Cond.fieldLink RX5 25 "MoodDrawers$Letters" "written" "I", Cond.fieldLink RX5 31 "MoodDrawers$Letters" "how" "[I", Cond.fieldLink RX5 9 "MoodDrawers$Regrets" "regret" "[I", Cond.methodLink RX5 15 yX5_workOut, Cond.instanceMethod yX5_workOut, Cond.selects RX5 yX5_workOut yX5_workOut, Cond.initialized RX5, Cond.code yX5_workOut cX5_workOut 6 none, Cond.fieldLink RX5 38 "MoodDrawers$Letters" "answered" "[I", Cond.methodLink RX5 45 Lib.Math.max.name, Cond.static Lib.Math.max.name, Cond.initialized "java/lang/Math", Cond.code Lib.Math.max.name Lib.Math.max.code 2 (some .int), Cond.methodLink RX5 34 yX0_heatNow, Cond.instanceMethod yX0_heatNow, Cond.selects RX0 yX0_heatNow yX0_heatNow, Cond.initialized RX0, Cond.code yX0_heatNow cX0_heatNow 3 (some .int), Cond.fieldLink RX0 25 "MoodDrawers$Desk" "letters" "LMoodDrawers$Letters;", Cond.fieldLink RX0 61 "MoodDrawers$Letters" "how" "[I", Cond.fieldLink RX0 120 "MoodDrawers$Letters" "sentHeat" "[I", Cond.fieldLink RX0 70 "MoodDrawers$Letters" "writtenOn" "[I", Cond.fieldLink RX0 67 "MoodDrawers$Letters" "heat" "[I"]
def wsX5_greatest_r2 : List Cond := [Cond.fieldLink RX0 9 "MoodDrawers$Desk" "settings" "[I", Cond.methodLink RX0 136 Lib.Math.max.name, Cond.methodLink RX0 73 yX0_today, Cond.instanceMethod yX0_today, Cond.selects RX0 yX0_today yX0_today, Cond.code yX0_today cX0_today 1 (some .int), Cond.fieldLink RX0 33 "MoodDrawers$Desk" "now" "I", Cond.methodLink RX5 41 yX3_isLetter, Cond.instanceMethod yX3_isLetter, Cond.selects RX3 yX3_isLetter yX3_isLetter, Cond.initialized RX3, Cond.code yX3_isLetter cX3_isLetter 2 (some .boolean), Cond.fieldLink RX3 33 "MoodDrawers$Letters" "written" "I"]
def wsX5_greatest : List Cond := .code yX5_greatest cX5_greatest 5 (some .int) :: ((wsX5_greatest_r1 ++ wsX5_greatest_r2) ++ wsX00 ++ wsX30 ++ wsX50)
def wsX6_init_r1 : List Cond := [Cond.methodLink RX6 1 objectInit, Cond.instanceMethod objectInit, Cond.code objectInit ⟨#[0xb1]⟩ 1 none, Cond.classLink RX6 7 RX0, Cond.instantiable RX0 4, Cond.initialized RX0, Cond.fieldLink RX6 10 "MoodDrawers" "desk" "LMoodDrawers$Desk;", Cond.classLink RX6 16 RX5, Cond.instantiable RX5 1, Cond.initialized RX5, Cond.fieldLink RX6 19 "MoodDrawers" "regrets" "LMoodDrawers$Regrets;", Cond.classLink RX6 23 RX4, Cond.instantiable RX4 7, Cond.initialized RX4, Cond.fieldLink RX6 26 "MoodDrawers" "pad" "LMoodDrawers$Pad;", Cond.classLink RX6 30 RX2, Cond.instantiable RX2 2, Cond.initialized RX2, Cond.fieldLink RX6 33 "MoodDrawers" "history" "LMoodDrawers$History;", Cond.fieldLink RX6 37 "MoodDrawers" "slots" "[LMoodDrawers$Desk;", Cond.instanceMethod yX0_init, Cond.code yX0_init cX0_init 1 none, Cond.methodLink RX0 3 objectInit, Cond.arrayClass .int]
def wsX6_init_r2 : List Cond := [Cond.fieldLink RX0 9 "MoodDrawers$Desk" "settings" "[I", Cond.classLink RX0 15 RX1, Cond.instantiable RX1 4, Cond.initialized RX1, Cond.fieldLink RX0 18 "MoodDrawers$Desk" "drawers" "LMoodDrawers$Drawers;", Cond.classLink RX0 22 RX3, Cond.instantiable RX3 8, Cond.initialized RX3, Cond.fieldLink RX0 25 "MoodDrawers$Desk" "letters" "LMoodDrawers$Letters;", Cond.instanceMethod yX1_init, Cond.code yX1_init cX1_init 1 none, Cond.methodLink RX1 3 objectInit, Cond.fieldLink RX1 9 "MoodDrawers$Drawers" "restDays" "[I", Cond.fieldLink RX1 15 "MoodDrawers$Drawers" "locked" "[I", Cond.fieldLink RX1 18 "MoodDrawers$Drawers" "unlockHour" "[I", Cond.fieldLink RX1 21 "MoodDrawers$Drawers" "lockHour" "[I", Cond.instanceMethod yX3_init, Cond.code yX3_init cX3_init 1 none, Cond.methodLink RX3 3 objectInit, Cond.fieldLink RX3 9 "MoodDrawers$Letters" "mood" "[I", Cond.fieldLink RX3 15 "MoodDrawers$Letters" "heat" "[I", Cond.fieldLink RX3 18 "MoodDrawers$Letters" "writtenOn" "[I", Cond.fieldLink RX3 21 "MoodDrawers$Letters" "answered" "[I", Cond.fieldLink RX3 24 "MoodDrawers$Letters" "how" "[I"]
def wsX6_init_r3 : List Cond := [Cond.fieldLink RX3 27 "MoodDrawers$Letters" "sentOn" "[I", Cond.fieldLink RX3 30 "MoodDrawers$Letters" "sentHeat" "[I", Cond.instanceMethod yX5_init, Cond.code yX5_init cX5_init 1 none, Cond.methodLink RX5 3 objectInit, Cond.fieldLink RX5 9 "MoodDrawers$Regrets" "regret" "[I", Cond.instanceMethod yX4_init, Cond.code yX4_init cX4_init 1 none, Cond.methodLink RX4 3 objectInit, Cond.arrayClass .char, Cond.fieldLink RX4 9 "MoodDrawers$Pad" "text" "[C", Cond.instanceMethod yX2_init, Cond.code yX2_init cX2_init 1 none, Cond.methodLink RX2 3 objectInit, Cond.classLink RX2 9 RX0, Cond.fieldLink RX2 11 "MoodDrawers$History" "rows" "[LMoodDrawers$Desk;"]
def wsX6_init : List Cond := .code yX6_init cX6_init 1 none :: ((wsX6_init_r1 ++ (wsX6_init_r2 ++ wsX6_init_r3)) ++ wsX00 ++ wsX60 ++ wsX50 ++ wsX40 ++ wsX20 ++ wsX10 ++ wsX30)
def wsX6_recorded : List Cond := .code yX6_recorded cX6_recorded 2 (some .int) :: ([.fieldLink RX6 33 "MoodDrawers" "history" "LMoodDrawers$History;", .methodLink RX6 72 yX2_keepPrepared, .instanceMethod yX2_keepPrepared, .selects RX2 yX2_keepPrepared yX2_keepPrepared, .initialized RX2, .code yX2_keepPrepared cX2_keepPrepared 3 none, .fieldLink RX2 17 "MoodDrawers$History" "kept" "I", .fieldLink RX2 11 "MoodDrawers$History" "rows" "[LMoodDrawers$Desk;"] ++ wsX60 ++ wsX20)
def wsX6_set_r1 : List Cond := [Cond.fieldLink RX6 33 "MoodDrawers" "history" "LMoodDrawers$History;", Cond.fieldLink RX6 10 "MoodDrawers" "desk" "LMoodDrawers$Desk;", Cond.methodLink RX6 41 yX2_prepare, Cond.instanceMethod yX2_prepare, Cond.selects RX2 yX2_prepare yX2_prepare, Cond.initialized RX2, Cond.code yX2_prepare cX2_prepare 3 none, Cond.fieldLink RX2 11 "MoodDrawers$History" "rows" "[LMoodDrawers$Desk;", Cond.fieldLink RX2 17 "MoodDrawers$History" "kept" "I", Cond.classLink RX2 9 RX0, Cond.instantiable RX0 4, Cond.initialized RX0, Cond.instanceMethod yX0_init, Cond.code yX0_init cX0_init 1 none, Cond.methodLink RX0 3 objectInit, Cond.instanceMethod objectInit, Cond.code objectInit ⟨#[0xb1]⟩ 1 none, Cond.arrayClass .int, Cond.fieldLink RX0 9 "MoodDrawers$Desk" "settings" "[I", Cond.classLink RX0 15 RX1, Cond.instantiable RX1 4, Cond.initialized RX1, Cond.fieldLink RX0 18 "MoodDrawers$Desk" "drawers" "LMoodDrawers$Drawers;", Cond.classLink RX0 22 RX3]
def wsX6_set_r2 : List Cond := [Cond.instantiable RX3 8, Cond.initialized RX3, Cond.fieldLink RX0 25 "MoodDrawers$Desk" "letters" "LMoodDrawers$Letters;", Cond.instanceMethod yX1_init, Cond.code yX1_init cX1_init 1 none, Cond.methodLink RX1 3 objectInit, Cond.fieldLink RX1 9 "MoodDrawers$Drawers" "restDays" "[I", Cond.fieldLink RX1 15 "MoodDrawers$Drawers" "locked" "[I", Cond.fieldLink RX1 18 "MoodDrawers$Drawers" "unlockHour" "[I", Cond.fieldLink RX1 21 "MoodDrawers$Drawers" "lockHour" "[I", Cond.instanceMethod yX3_init, Cond.code yX3_init cX3_init 1 none, Cond.methodLink RX3 3 objectInit, Cond.fieldLink RX3 9 "MoodDrawers$Letters" "mood" "[I", Cond.fieldLink RX3 15 "MoodDrawers$Letters" "heat" "[I", Cond.fieldLink RX3 18 "MoodDrawers$Letters" "writtenOn" "[I", Cond.fieldLink RX3 21 "MoodDrawers$Letters" "answered" "[I", Cond.fieldLink RX3 24 "MoodDrawers$Letters" "how" "[I", Cond.fieldLink RX3 27 "MoodDrawers$Letters" "sentOn" "[I", Cond.fieldLink RX3 30 "MoodDrawers$Letters" "sentHeat" "[I", Cond.methodLink RX2 22 yX0_copyFrom, Cond.instanceMethod yX0_copyFrom, Cond.selects RX0 yX0_copyFrom yX0_copyFrom, Cond.code yX0_copyFrom cX0_copyFrom 2 none]
def wsX6_set_r3 : List Cond := [Cond.fieldLink RX0 33 "MoodDrawers$Desk" "now" "I", Cond.static yX6_copy, Cond.initialized RX6, Cond.code yX6_copy cX6_copy 2 none, Cond.methodLink RX6 251 Lib.Math.min.name, Cond.static Lib.Math.min.name, Cond.initialized "java/lang/Math", Cond.code Lib.Math.min.name Lib.Math.min.code 2 (some .int), Cond.methodLink RX6 256 arraycopyName, Cond.native arraycopyName, Cond.static arraycopyName, Cond.initialized "java/lang/System", Cond.methodLink RX0 37 yX1_copyFrom, Cond.instanceMethod yX1_copyFrom, Cond.selects RX1 yX1_copyFrom yX1_copyFrom, Cond.code yX1_copyFrom cX1_copyFrom 2 none, Cond.methodLink RX0 41 yX3_copyFrom, Cond.instanceMethod yX3_copyFrom, Cond.selects RX3 yX3_copyFrom yX3_copyFrom, Cond.code yX3_copyFrom cX3_copyFrom 2 none, Cond.fieldLink RX3 33 "MoodDrawers$Letters" "written" "I", Cond.methodLink RX6 45 yX0_changeSetting, Cond.instanceMethod yX0_changeSetting, Cond.selects RX0 yX0_changeSetting yX0_changeSetting]
def wsX6_set_r4 : List Cond := [Cond.code yX0_changeSetting cX0_changeSetting 4 (some .int), Cond.methodLink RX6 49 yX6_recorded, Cond.instanceMethod yX6_recorded, Cond.selects RX6 yX6_recorded yX6_recorded, Cond.code yX6_recorded cX6_recorded 2 (some .int), Cond.methodLink RX6 72 yX2_keepPrepared, Cond.instanceMethod yX2_keepPrepared, Cond.selects RX2 yX2_keepPrepared yX2_keepPrepared, Cond.code yX2_keepPrepared cX2_keepPrepared 3 none]
def wsX6_set : List Cond := .code yX6_set cX6_set 3 (some .int) :: ((wsX6_set_r1 ++ (wsX6_set_r2 ++ (wsX6_set_r3 ++ wsX6_set_r4))) ++ wsX60 ++ wsX20 ++ wsX00 ++ wsX10 ++ wsX30)
def wsX6_write_r1 : List Cond := [Cond.fieldLink RX6 33 "MoodDrawers" "history" "LMoodDrawers$History;", Cond.fieldLink RX6 10 "MoodDrawers" "desk" "LMoodDrawers$Desk;", Cond.methodLink RX6 41 yX2_prepare, Cond.instanceMethod yX2_prepare, Cond.selects RX2 yX2_prepare yX2_prepare, Cond.initialized RX2, Cond.code yX2_prepare cX2_prepare 3 none, Cond.fieldLink RX2 11 "MoodDrawers$History" "rows" "[LMoodDrawers$Desk;", Cond.fieldLink RX2 17 "MoodDrawers$History" "kept" "I", Cond.classLink RX2 9 RX0, Cond.instantiable RX0 4, Cond.initialized RX0, Cond.instanceMethod yX0_init, Cond.code yX0_init cX0_init 1 none, Cond.methodLink RX0 3 objectInit, Cond.instanceMethod objectInit, Cond.code objectInit ⟨#[0xb1]⟩ 1 none, Cond.arrayClass .int, Cond.fieldLink RX0 9 "MoodDrawers$Desk" "settings" "[I", Cond.classLink RX0 15 RX1, Cond.instantiable RX1 4, Cond.initialized RX1, Cond.fieldLink RX0 18 "MoodDrawers$Desk" "drawers" "LMoodDrawers$Drawers;", Cond.classLink RX0 22 RX3]
def wsX6_write_r2 : List Cond := [Cond.instantiable RX3 8, Cond.initialized RX3, Cond.fieldLink RX0 25 "MoodDrawers$Desk" "letters" "LMoodDrawers$Letters;", Cond.instanceMethod yX1_init, Cond.code yX1_init cX1_init 1 none, Cond.methodLink RX1 3 objectInit, Cond.fieldLink RX1 9 "MoodDrawers$Drawers" "restDays" "[I", Cond.fieldLink RX1 15 "MoodDrawers$Drawers" "locked" "[I", Cond.fieldLink RX1 18 "MoodDrawers$Drawers" "unlockHour" "[I", Cond.fieldLink RX1 21 "MoodDrawers$Drawers" "lockHour" "[I", Cond.instanceMethod yX3_init, Cond.code yX3_init cX3_init 1 none, Cond.methodLink RX3 3 objectInit, Cond.fieldLink RX3 9 "MoodDrawers$Letters" "mood" "[I", Cond.fieldLink RX3 15 "MoodDrawers$Letters" "heat" "[I", Cond.fieldLink RX3 18 "MoodDrawers$Letters" "writtenOn" "[I", Cond.fieldLink RX3 21 "MoodDrawers$Letters" "answered" "[I", Cond.fieldLink RX3 24 "MoodDrawers$Letters" "how" "[I", Cond.fieldLink RX3 27 "MoodDrawers$Letters" "sentOn" "[I", Cond.fieldLink RX3 30 "MoodDrawers$Letters" "sentHeat" "[I", Cond.methodLink RX2 22 yX0_copyFrom, Cond.instanceMethod yX0_copyFrom, Cond.selects RX0 yX0_copyFrom yX0_copyFrom, Cond.code yX0_copyFrom cX0_copyFrom 2 none]
def wsX6_write_r3 : List Cond := [Cond.fieldLink RX0 33 "MoodDrawers$Desk" "now" "I", Cond.static yX6_copy, Cond.initialized RX6, Cond.code yX6_copy cX6_copy 2 none, Cond.methodLink RX6 251 Lib.Math.min.name, Cond.static Lib.Math.min.name, Cond.initialized "java/lang/Math", Cond.code Lib.Math.min.name Lib.Math.min.code 2 (some .int), Cond.methodLink RX6 256 arraycopyName, Cond.native arraycopyName, Cond.static arraycopyName, Cond.initialized "java/lang/System", Cond.methodLink RX0 37 yX1_copyFrom, Cond.instanceMethod yX1_copyFrom, Cond.selects RX1 yX1_copyFrom yX1_copyFrom, Cond.code yX1_copyFrom cX1_copyFrom 2 none, Cond.methodLink RX0 41 yX3_copyFrom, Cond.instanceMethod yX3_copyFrom, Cond.selects RX3 yX3_copyFrom yX3_copyFrom, Cond.code yX3_copyFrom cX3_copyFrom 2 none, Cond.fieldLink RX3 33 "MoodDrawers$Letters" "written" "I", Cond.methodLink RX6 53 yX0_writeLetter, Cond.instanceMethod yX0_writeLetter, Cond.selects RX0 yX0_writeLetter yX0_writeLetter]
def wsX6_write_r4 : List Cond := [Cond.code yX0_writeLetter cX0_writeLetter 5 (some .int), Cond.fieldLink RX0 54 "MoodDrawers$Letters" "written" "I", Cond.fieldLink RX0 61 "MoodDrawers$Letters" "how" "[I", Cond.fieldLink RX0 64 "MoodDrawers$Letters" "mood" "[I", Cond.fieldLink RX0 67 "MoodDrawers$Letters" "heat" "[I", Cond.fieldLink RX0 70 "MoodDrawers$Letters" "writtenOn" "[I", Cond.fieldLink RX0 77 "MoodDrawers$Letters" "answered" "[I", Cond.fieldLink RX0 80 "MoodDrawers$Letters" "sentOn" "[I", Cond.static yX6_isMood, Cond.code yX6_isMood cX6_isMood 1 (some .boolean), Cond.methodLink RX0 51 yX3_isLetter, Cond.instanceMethod yX3_isLetter, Cond.selects RX3 yX3_isLetter yX3_isLetter, Cond.code yX3_isLetter cX3_isLetter 2 (some .boolean), Cond.methodLink RX0 57 yX3_ofMood, Cond.instanceMethod yX3_ofMood, Cond.selects RX3 yX3_ofMood yX3_ofMood, Cond.code yX3_ofMood cX3_ofMood 5 (some .int), Cond.methodLink RX0 73 yX0_today, Cond.instanceMethod yX0_today, Cond.selects RX0 yX0_today yX0_today, Cond.code yX0_today cX0_today 1 (some .int), Cond.methodLink RX6 49 yX6_recorded, Cond.instanceMethod yX6_recorded]
def wsX6_write_r5 : List Cond := [Cond.selects RX6 yX6_recorded yX6_recorded, Cond.code yX6_recorded cX6_recorded 2 (some .int), Cond.methodLink RX6 72 yX2_keepPrepared, Cond.instanceMethod yX2_keepPrepared, Cond.selects RX2 yX2_keepPrepared yX2_keepPrepared, Cond.code yX2_keepPrepared cX2_keepPrepared 3 none]
def wsX6_write : List Cond := .code yX6_write cX6_write 4 (some .int) :: ((wsX6_write_r1 ++ (wsX6_write_r2 ++ (wsX6_write_r3 ++ (wsX6_write_r4 ++ wsX6_write_r5)))) ++ wsX60 ++ wsX20 ++ wsX00 ++ wsX10 ++ wsX30)
def wsX6_turn_r1 : List Cond := [Cond.fieldLink RX6 33 "MoodDrawers" "history" "LMoodDrawers$History;", Cond.fieldLink RX6 10 "MoodDrawers" "desk" "LMoodDrawers$Desk;", Cond.methodLink RX6 41 yX2_prepare, Cond.instanceMethod yX2_prepare, Cond.selects RX2 yX2_prepare yX2_prepare, Cond.initialized RX2, Cond.code yX2_prepare cX2_prepare 3 none, Cond.fieldLink RX2 11 "MoodDrawers$History" "rows" "[LMoodDrawers$Desk;", Cond.fieldLink RX2 17 "MoodDrawers$History" "kept" "I", Cond.classLink RX2 9 RX0, Cond.instantiable RX0 4, Cond.initialized RX0, Cond.instanceMethod yX0_init, Cond.code yX0_init cX0_init 1 none, Cond.methodLink RX0 3 objectInit, Cond.instanceMethod objectInit, Cond.code objectInit ⟨#[0xb1]⟩ 1 none, Cond.arrayClass .int, Cond.fieldLink RX0 9 "MoodDrawers$Desk" "settings" "[I", Cond.classLink RX0 15 RX1, Cond.instantiable RX1 4, Cond.initialized RX1, Cond.fieldLink RX0 18 "MoodDrawers$Desk" "drawers" "LMoodDrawers$Drawers;", Cond.classLink RX0 22 RX3]
def wsX6_turn_r2 : List Cond := [Cond.instantiable RX3 8, Cond.initialized RX3, Cond.fieldLink RX0 25 "MoodDrawers$Desk" "letters" "LMoodDrawers$Letters;", Cond.instanceMethod yX1_init, Cond.code yX1_init cX1_init 1 none, Cond.methodLink RX1 3 objectInit, Cond.fieldLink RX1 9 "MoodDrawers$Drawers" "restDays" "[I", Cond.fieldLink RX1 15 "MoodDrawers$Drawers" "locked" "[I", Cond.fieldLink RX1 18 "MoodDrawers$Drawers" "unlockHour" "[I", Cond.fieldLink RX1 21 "MoodDrawers$Drawers" "lockHour" "[I", Cond.instanceMethod yX3_init, Cond.code yX3_init cX3_init 1 none, Cond.methodLink RX3 3 objectInit, Cond.fieldLink RX3 9 "MoodDrawers$Letters" "mood" "[I", Cond.fieldLink RX3 15 "MoodDrawers$Letters" "heat" "[I", Cond.fieldLink RX3 18 "MoodDrawers$Letters" "writtenOn" "[I", Cond.fieldLink RX3 21 "MoodDrawers$Letters" "answered" "[I", Cond.fieldLink RX3 24 "MoodDrawers$Letters" "how" "[I", Cond.fieldLink RX3 27 "MoodDrawers$Letters" "sentOn" "[I", Cond.fieldLink RX3 30 "MoodDrawers$Letters" "sentHeat" "[I", Cond.methodLink RX2 22 yX0_copyFrom, Cond.instanceMethod yX0_copyFrom, Cond.selects RX0 yX0_copyFrom yX0_copyFrom, Cond.code yX0_copyFrom cX0_copyFrom 2 none]
def wsX6_turn_r3 : List Cond := [Cond.fieldLink RX0 33 "MoodDrawers$Desk" "now" "I", Cond.static yX6_copy, Cond.initialized RX6, Cond.code yX6_copy cX6_copy 2 none, Cond.methodLink RX6 251 Lib.Math.min.name, Cond.static Lib.Math.min.name, Cond.initialized "java/lang/Math", Cond.code Lib.Math.min.name Lib.Math.min.code 2 (some .int), Cond.methodLink RX6 256 arraycopyName, Cond.native arraycopyName, Cond.static arraycopyName, Cond.initialized "java/lang/System", Cond.methodLink RX0 37 yX1_copyFrom, Cond.instanceMethod yX1_copyFrom, Cond.selects RX1 yX1_copyFrom yX1_copyFrom, Cond.code yX1_copyFrom cX1_copyFrom 2 none, Cond.methodLink RX0 41 yX3_copyFrom, Cond.instanceMethod yX3_copyFrom, Cond.selects RX3 yX3_copyFrom yX3_copyFrom, Cond.code yX3_copyFrom cX3_copyFrom 2 none, Cond.fieldLink RX3 33 "MoodDrawers$Letters" "written" "I", Cond.methodLink RX6 57 yX0_turnKey, Cond.instanceMethod yX0_turnKey, Cond.selects RX0 yX0_turnKey yX0_turnKey]
def wsX6_turn_r4 : List Cond := [Cond.code yX0_turnKey cX0_turnKey 2 (some .int), Cond.fieldLink RX0 83 "MoodDrawers$Drawers" "locked" "[I", Cond.static yX6_isMood, Cond.code yX6_isMood cX6_isMood 1 (some .boolean), Cond.methodLink RX6 49 yX6_recorded, Cond.instanceMethod yX6_recorded, Cond.selects RX6 yX6_recorded yX6_recorded, Cond.code yX6_recorded cX6_recorded 2 (some .int), Cond.methodLink RX6 72 yX2_keepPrepared, Cond.instanceMethod yX2_keepPrepared, Cond.selects RX2 yX2_keepPrepared yX2_keepPrepared, Cond.code yX2_keepPrepared cX2_keepPrepared 3 none]
def wsX6_turn : List Cond := .code yX6_turn cX6_turn 2 (some .int) :: ((wsX6_turn_r1 ++ (wsX6_turn_r2 ++ (wsX6_turn_r3 ++ wsX6_turn_r4))) ++ wsX60 ++ wsX20 ++ wsX00 ++ wsX10 ++ wsX30)
def wsX6_rest_r1 : List Cond := [Cond.fieldLink RX6 33 "MoodDrawers" "history" "LMoodDrawers$History;", Cond.fieldLink RX6 10 "MoodDrawers" "desk" "LMoodDrawers$Desk;", Cond.methodLink RX6 41 yX2_prepare, Cond.instanceMethod yX2_prepare, Cond.selects RX2 yX2_prepare yX2_prepare, Cond.initialized RX2, Cond.code yX2_prepare cX2_prepare 3 none, Cond.fieldLink RX2 11 "MoodDrawers$History" "rows" "[LMoodDrawers$Desk;", Cond.fieldLink RX2 17 "MoodDrawers$History" "kept" "I", Cond.classLink RX2 9 RX0, Cond.instantiable RX0 4, Cond.initialized RX0, Cond.instanceMethod yX0_init, Cond.code yX0_init cX0_init 1 none, Cond.methodLink RX0 3 objectInit, Cond.instanceMethod objectInit, Cond.code objectInit ⟨#[0xb1]⟩ 1 none, Cond.arrayClass .int, Cond.fieldLink RX0 9 "MoodDrawers$Desk" "settings" "[I", Cond.classLink RX0 15 RX1, Cond.instantiable RX1 4, Cond.initialized RX1, Cond.fieldLink RX0 18 "MoodDrawers$Desk" "drawers" "LMoodDrawers$Drawers;", Cond.classLink RX0 22 RX3]
def wsX6_rest_r2 : List Cond := [Cond.instantiable RX3 8, Cond.initialized RX3, Cond.fieldLink RX0 25 "MoodDrawers$Desk" "letters" "LMoodDrawers$Letters;", Cond.instanceMethod yX1_init, Cond.code yX1_init cX1_init 1 none, Cond.methodLink RX1 3 objectInit, Cond.fieldLink RX1 9 "MoodDrawers$Drawers" "restDays" "[I", Cond.fieldLink RX1 15 "MoodDrawers$Drawers" "locked" "[I", Cond.fieldLink RX1 18 "MoodDrawers$Drawers" "unlockHour" "[I", Cond.fieldLink RX1 21 "MoodDrawers$Drawers" "lockHour" "[I", Cond.instanceMethod yX3_init, Cond.code yX3_init cX3_init 1 none, Cond.methodLink RX3 3 objectInit, Cond.fieldLink RX3 9 "MoodDrawers$Letters" "mood" "[I", Cond.fieldLink RX3 15 "MoodDrawers$Letters" "heat" "[I", Cond.fieldLink RX3 18 "MoodDrawers$Letters" "writtenOn" "[I", Cond.fieldLink RX3 21 "MoodDrawers$Letters" "answered" "[I", Cond.fieldLink RX3 24 "MoodDrawers$Letters" "how" "[I", Cond.fieldLink RX3 27 "MoodDrawers$Letters" "sentOn" "[I", Cond.fieldLink RX3 30 "MoodDrawers$Letters" "sentHeat" "[I", Cond.methodLink RX2 22 yX0_copyFrom, Cond.instanceMethod yX0_copyFrom, Cond.selects RX0 yX0_copyFrom yX0_copyFrom, Cond.code yX0_copyFrom cX0_copyFrom 2 none]
def wsX6_rest_r3 : List Cond := [Cond.fieldLink RX0 33 "MoodDrawers$Desk" "now" "I", Cond.static yX6_copy, Cond.initialized RX6, Cond.code yX6_copy cX6_copy 2 none, Cond.methodLink RX6 251 Lib.Math.min.name, Cond.static Lib.Math.min.name, Cond.initialized "java/lang/Math", Cond.code Lib.Math.min.name Lib.Math.min.code 2 (some .int), Cond.methodLink RX6 256 arraycopyName, Cond.native arraycopyName, Cond.static arraycopyName, Cond.initialized "java/lang/System", Cond.methodLink RX0 37 yX1_copyFrom, Cond.instanceMethod yX1_copyFrom, Cond.selects RX1 yX1_copyFrom yX1_copyFrom, Cond.code yX1_copyFrom cX1_copyFrom 2 none, Cond.methodLink RX0 41 yX3_copyFrom, Cond.instanceMethod yX3_copyFrom, Cond.selects RX3 yX3_copyFrom yX3_copyFrom, Cond.code yX3_copyFrom cX3_copyFrom 2 none, Cond.fieldLink RX3 33 "MoodDrawers$Letters" "written" "I", Cond.methodLink RX6 60 yX0_changeRest, Cond.instanceMethod yX0_changeRest, Cond.selects RX0 yX0_changeRest yX0_changeRest]
def wsX6_rest_r4 : List Cond := [Cond.code yX0_changeRest cX0_changeRest 4 (some .int), Cond.fieldLink RX0 86 "MoodDrawers$Drawers" "restDays" "[I", Cond.static yX6_isMood, Cond.code yX6_isMood cX6_isMood 1 (some .boolean), Cond.methodLink RX6 49 yX6_recorded, Cond.instanceMethod yX6_recorded, Cond.selects RX6 yX6_recorded yX6_recorded, Cond.code yX6_recorded cX6_recorded 2 (some .int), Cond.methodLink RX6 72 yX2_keepPrepared, Cond.instanceMethod yX2_keepPrepared, Cond.selects RX2 yX2_keepPrepared yX2_keepPrepared, Cond.code yX2_keepPrepared cX2_keepPrepared 3 none]
def wsX6_rest : List Cond := .code yX6_rest cX6_rest 3 (some .int) :: ((wsX6_rest_r1 ++ (wsX6_rest_r2 ++ (wsX6_rest_r3 ++ wsX6_rest_r4))) ++ wsX60 ++ wsX20 ++ wsX00 ++ wsX10 ++ wsX30)
def wsX6_hours_r1 : List Cond := [Cond.fieldLink RX6 33 "MoodDrawers" "history" "LMoodDrawers$History;", Cond.fieldLink RX6 10 "MoodDrawers" "desk" "LMoodDrawers$Desk;", Cond.methodLink RX6 41 yX2_prepare, Cond.instanceMethod yX2_prepare, Cond.selects RX2 yX2_prepare yX2_prepare, Cond.initialized RX2, Cond.code yX2_prepare cX2_prepare 3 none, Cond.fieldLink RX2 11 "MoodDrawers$History" "rows" "[LMoodDrawers$Desk;", Cond.fieldLink RX2 17 "MoodDrawers$History" "kept" "I", Cond.classLink RX2 9 RX0, Cond.instantiable RX0 4, Cond.initialized RX0, Cond.instanceMethod yX0_init, Cond.code yX0_init cX0_init 1 none, Cond.methodLink RX0 3 objectInit, Cond.instanceMethod objectInit, Cond.code objectInit ⟨#[0xb1]⟩ 1 none, Cond.arrayClass .int, Cond.fieldLink RX0 9 "MoodDrawers$Desk" "settings" "[I", Cond.classLink RX0 15 RX1, Cond.instantiable RX1 4, Cond.initialized RX1, Cond.fieldLink RX0 18 "MoodDrawers$Desk" "drawers" "LMoodDrawers$Drawers;", Cond.classLink RX0 22 RX3]
def wsX6_hours_r2 : List Cond := [Cond.instantiable RX3 8, Cond.initialized RX3, Cond.fieldLink RX0 25 "MoodDrawers$Desk" "letters" "LMoodDrawers$Letters;", Cond.instanceMethod yX1_init, Cond.code yX1_init cX1_init 1 none, Cond.methodLink RX1 3 objectInit, Cond.fieldLink RX1 9 "MoodDrawers$Drawers" "restDays" "[I", Cond.fieldLink RX1 15 "MoodDrawers$Drawers" "locked" "[I", Cond.fieldLink RX1 18 "MoodDrawers$Drawers" "unlockHour" "[I", Cond.fieldLink RX1 21 "MoodDrawers$Drawers" "lockHour" "[I", Cond.instanceMethod yX3_init, Cond.code yX3_init cX3_init 1 none, Cond.methodLink RX3 3 objectInit, Cond.fieldLink RX3 9 "MoodDrawers$Letters" "mood" "[I", Cond.fieldLink RX3 15 "MoodDrawers$Letters" "heat" "[I", Cond.fieldLink RX3 18 "MoodDrawers$Letters" "writtenOn" "[I", Cond.fieldLink RX3 21 "MoodDrawers$Letters" "answered" "[I", Cond.fieldLink RX3 24 "MoodDrawers$Letters" "how" "[I", Cond.fieldLink RX3 27 "MoodDrawers$Letters" "sentOn" "[I", Cond.fieldLink RX3 30 "MoodDrawers$Letters" "sentHeat" "[I", Cond.methodLink RX2 22 yX0_copyFrom, Cond.instanceMethod yX0_copyFrom, Cond.selects RX0 yX0_copyFrom yX0_copyFrom, Cond.code yX0_copyFrom cX0_copyFrom 2 none]
def wsX6_hours_r3 : List Cond := [Cond.fieldLink RX0 33 "MoodDrawers$Desk" "now" "I", Cond.static yX6_copy, Cond.initialized RX6, Cond.code yX6_copy cX6_copy 2 none, Cond.methodLink RX6 251 Lib.Math.min.name, Cond.static Lib.Math.min.name, Cond.initialized "java/lang/Math", Cond.code Lib.Math.min.name Lib.Math.min.code 2 (some .int), Cond.methodLink RX6 256 arraycopyName, Cond.native arraycopyName, Cond.static arraycopyName, Cond.initialized "java/lang/System", Cond.methodLink RX0 37 yX1_copyFrom, Cond.instanceMethod yX1_copyFrom, Cond.selects RX1 yX1_copyFrom yX1_copyFrom, Cond.code yX1_copyFrom cX1_copyFrom 2 none, Cond.methodLink RX0 41 yX3_copyFrom, Cond.instanceMethod yX3_copyFrom, Cond.selects RX3 yX3_copyFrom yX3_copyFrom, Cond.code yX3_copyFrom cX3_copyFrom 2 none, Cond.fieldLink RX3 33 "MoodDrawers$Letters" "written" "I", Cond.methodLink RX6 63 yX0_changeHours, Cond.instanceMethod yX0_changeHours, Cond.selects RX0 yX0_changeHours yX0_changeHours]
def wsX6_hours_r4 : List Cond := [Cond.code yX0_changeHours cX0_changeHours 5 (some .int), Cond.fieldLink RX0 92 "MoodDrawers$Drawers" "unlockHour" "[I", Cond.fieldLink RX0 95 "MoodDrawers$Drawers" "lockHour" "[I", Cond.static yX6_isMood, Cond.code yX6_isMood cX6_isMood 1 (some .boolean), Cond.static yX6_isHour, Cond.code yX6_isHour cX6_isHour 1 (some .boolean), Cond.methodLink RX6 49 yX6_recorded, Cond.instanceMethod yX6_recorded, Cond.selects RX6 yX6_recorded yX6_recorded, Cond.code yX6_recorded cX6_recorded 2 (some .int), Cond.methodLink RX6 72 yX2_keepPrepared, Cond.instanceMethod yX2_keepPrepared, Cond.selects RX2 yX2_keepPrepared yX2_keepPrepared, Cond.code yX2_keepPrepared cX2_keepPrepared 3 none]
def wsX6_hours : List Cond := .code yX6_hours cX6_hours 4 (some .int) :: ((wsX6_hours_r1 ++ (wsX6_hours_r2 ++ (wsX6_hours_r3 ++ wsX6_hours_r4))) ++ wsX60 ++ wsX20 ++ wsX00 ++ wsX10 ++ wsX30)
def wsX6_burn_r1 : List Cond := [Cond.fieldLink RX6 33 "MoodDrawers" "history" "LMoodDrawers$History;", Cond.fieldLink RX6 10 "MoodDrawers" "desk" "LMoodDrawers$Desk;", Cond.methodLink RX6 41 yX2_prepare, Cond.instanceMethod yX2_prepare, Cond.selects RX2 yX2_prepare yX2_prepare, Cond.initialized RX2, Cond.code yX2_prepare cX2_prepare 3 none, Cond.fieldLink RX2 11 "MoodDrawers$History" "rows" "[LMoodDrawers$Desk;", Cond.fieldLink RX2 17 "MoodDrawers$History" "kept" "I", Cond.classLink RX2 9 RX0, Cond.instantiable RX0 4, Cond.initialized RX0, Cond.instanceMethod yX0_init, Cond.code yX0_init cX0_init 1 none, Cond.methodLink RX0 3 objectInit, Cond.instanceMethod objectInit, Cond.code objectInit ⟨#[0xb1]⟩ 1 none, Cond.arrayClass .int, Cond.fieldLink RX0 9 "MoodDrawers$Desk" "settings" "[I", Cond.classLink RX0 15 RX1, Cond.instantiable RX1 4, Cond.initialized RX1, Cond.fieldLink RX0 18 "MoodDrawers$Desk" "drawers" "LMoodDrawers$Drawers;", Cond.classLink RX0 22 RX3]
def wsX6_burn_r2 : List Cond := [Cond.instantiable RX3 8, Cond.initialized RX3, Cond.fieldLink RX0 25 "MoodDrawers$Desk" "letters" "LMoodDrawers$Letters;", Cond.instanceMethod yX1_init, Cond.code yX1_init cX1_init 1 none, Cond.methodLink RX1 3 objectInit, Cond.fieldLink RX1 9 "MoodDrawers$Drawers" "restDays" "[I", Cond.fieldLink RX1 15 "MoodDrawers$Drawers" "locked" "[I", Cond.fieldLink RX1 18 "MoodDrawers$Drawers" "unlockHour" "[I", Cond.fieldLink RX1 21 "MoodDrawers$Drawers" "lockHour" "[I", Cond.instanceMethod yX3_init, Cond.code yX3_init cX3_init 1 none, Cond.methodLink RX3 3 objectInit, Cond.fieldLink RX3 9 "MoodDrawers$Letters" "mood" "[I", Cond.fieldLink RX3 15 "MoodDrawers$Letters" "heat" "[I", Cond.fieldLink RX3 18 "MoodDrawers$Letters" "writtenOn" "[I", Cond.fieldLink RX3 21 "MoodDrawers$Letters" "answered" "[I", Cond.fieldLink RX3 24 "MoodDrawers$Letters" "how" "[I", Cond.fieldLink RX3 27 "MoodDrawers$Letters" "sentOn" "[I", Cond.fieldLink RX3 30 "MoodDrawers$Letters" "sentHeat" "[I", Cond.methodLink RX2 22 yX0_copyFrom, Cond.instanceMethod yX0_copyFrom, Cond.selects RX0 yX0_copyFrom yX0_copyFrom, Cond.code yX0_copyFrom cX0_copyFrom 2 none]
def wsX6_burn_r3 : List Cond := [Cond.fieldLink RX0 33 "MoodDrawers$Desk" "now" "I", Cond.static yX6_copy, Cond.initialized RX6, Cond.code yX6_copy cX6_copy 2 none, Cond.methodLink RX6 251 Lib.Math.min.name, Cond.static Lib.Math.min.name, Cond.initialized "java/lang/Math", Cond.code Lib.Math.min.name Lib.Math.min.code 2 (some .int), Cond.methodLink RX6 256 arraycopyName, Cond.native arraycopyName, Cond.static arraycopyName, Cond.initialized "java/lang/System", Cond.methodLink RX0 37 yX1_copyFrom, Cond.instanceMethod yX1_copyFrom, Cond.selects RX1 yX1_copyFrom yX1_copyFrom, Cond.code yX1_copyFrom cX1_copyFrom 2 none, Cond.methodLink RX0 41 yX3_copyFrom, Cond.instanceMethod yX3_copyFrom, Cond.selects RX3 yX3_copyFrom yX3_copyFrom, Cond.code yX3_copyFrom cX3_copyFrom 2 none, Cond.fieldLink RX3 33 "MoodDrawers$Letters" "written" "I", Cond.methodLink RX6 66 yX0_burnLetter, Cond.instanceMethod yX0_burnLetter, Cond.selects RX0 yX0_burnLetter yX0_burnLetter]
def wsX6_burn_r4 : List Cond := [Cond.code yX0_burnLetter cX0_burnLetter 2 (some .int), Cond.fieldLink RX0 61 "MoodDrawers$Letters" "how" "[I", Cond.fieldLink RX0 64 "MoodDrawers$Letters" "mood" "[I", Cond.methodLink RX0 51 yX3_isLetter, Cond.instanceMethod yX3_isLetter, Cond.selects RX3 yX3_isLetter yX3_isLetter, Cond.code yX3_isLetter cX3_isLetter 2 (some .boolean), Cond.methodLink RX0 98 yX0_isShut, Cond.instanceMethod yX0_isShut, Cond.selects RX0 yX0_isShut yX0_isShut, Cond.code yX0_isShut cX0_isShut 2 (some .boolean), Cond.fieldLink RX0 83 "MoodDrawers$Drawers" "locked" "[I", Cond.static yX6_isMood, Cond.code yX6_isMood cX6_isMood 1 (some .boolean), Cond.methodLink RX0 101 yX0_heatNow, Cond.instanceMethod yX0_heatNow, Cond.selects RX0 yX0_heatNow yX0_heatNow, Cond.code yX0_heatNow cX0_heatNow 3 (some .int), Cond.fieldLink RX0 120 "MoodDrawers$Letters" "sentHeat" "[I", Cond.fieldLink RX0 70 "MoodDrawers$Letters" "writtenOn" "[I", Cond.fieldLink RX0 67 "MoodDrawers$Letters" "heat" "[I", Cond.methodLink RX0 136 Lib.Math.max.name, Cond.static Lib.Math.max.name, Cond.code Lib.Math.max.name Lib.Math.max.code 2 (some .int)]
def wsX6_burn_r5 : List Cond := [Cond.methodLink RX0 73 yX0_today, Cond.instanceMethod yX0_today, Cond.selects RX0 yX0_today yX0_today, Cond.code yX0_today cX0_today 1 (some .int), Cond.methodLink RX6 49 yX6_recorded, Cond.instanceMethod yX6_recorded, Cond.selects RX6 yX6_recorded yX6_recorded, Cond.code yX6_recorded cX6_recorded 2 (some .int), Cond.methodLink RX6 72 yX2_keepPrepared, Cond.instanceMethod yX2_keepPrepared, Cond.selects RX2 yX2_keepPrepared yX2_keepPrepared, Cond.code yX2_keepPrepared cX2_keepPrepared 3 none]
def wsX6_burn : List Cond := .code yX6_burn cX6_burn 2 (some .int) :: ((wsX6_burn_r1 ++ (wsX6_burn_r2 ++ (wsX6_burn_r3 ++ (wsX6_burn_r4 ++ wsX6_burn_r5)))) ++ wsX60 ++ wsX20 ++ wsX00 ++ wsX10 ++ wsX30)
def wsX6_pass_r1 : List Cond := [Cond.fieldLink RX6 33 "MoodDrawers" "history" "LMoodDrawers$History;", Cond.fieldLink RX6 10 "MoodDrawers" "desk" "LMoodDrawers$Desk;", Cond.methodLink RX6 41 yX2_prepare, Cond.instanceMethod yX2_prepare, Cond.selects RX2 yX2_prepare yX2_prepare, Cond.initialized RX2, Cond.code yX2_prepare cX2_prepare 3 none, Cond.fieldLink RX2 11 "MoodDrawers$History" "rows" "[LMoodDrawers$Desk;", Cond.fieldLink RX2 17 "MoodDrawers$History" "kept" "I", Cond.classLink RX2 9 RX0, Cond.instantiable RX0 4, Cond.initialized RX0, Cond.instanceMethod yX0_init, Cond.code yX0_init cX0_init 1 none, Cond.methodLink RX0 3 objectInit, Cond.instanceMethod objectInit, Cond.code objectInit ⟨#[0xb1]⟩ 1 none, Cond.arrayClass .int, Cond.fieldLink RX0 9 "MoodDrawers$Desk" "settings" "[I", Cond.classLink RX0 15 RX1, Cond.instantiable RX1 4, Cond.initialized RX1, Cond.fieldLink RX0 18 "MoodDrawers$Desk" "drawers" "LMoodDrawers$Drawers;", Cond.classLink RX0 22 RX3]
def wsX6_pass_r2 : List Cond := [Cond.instantiable RX3 8, Cond.initialized RX3, Cond.fieldLink RX0 25 "MoodDrawers$Desk" "letters" "LMoodDrawers$Letters;", Cond.instanceMethod yX1_init, Cond.code yX1_init cX1_init 1 none, Cond.methodLink RX1 3 objectInit, Cond.fieldLink RX1 9 "MoodDrawers$Drawers" "restDays" "[I", Cond.fieldLink RX1 15 "MoodDrawers$Drawers" "locked" "[I", Cond.fieldLink RX1 18 "MoodDrawers$Drawers" "unlockHour" "[I", Cond.fieldLink RX1 21 "MoodDrawers$Drawers" "lockHour" "[I", Cond.instanceMethod yX3_init, Cond.code yX3_init cX3_init 1 none, Cond.methodLink RX3 3 objectInit, Cond.fieldLink RX3 9 "MoodDrawers$Letters" "mood" "[I", Cond.fieldLink RX3 15 "MoodDrawers$Letters" "heat" "[I", Cond.fieldLink RX3 18 "MoodDrawers$Letters" "writtenOn" "[I", Cond.fieldLink RX3 21 "MoodDrawers$Letters" "answered" "[I", Cond.fieldLink RX3 24 "MoodDrawers$Letters" "how" "[I", Cond.fieldLink RX3 27 "MoodDrawers$Letters" "sentOn" "[I", Cond.fieldLink RX3 30 "MoodDrawers$Letters" "sentHeat" "[I", Cond.methodLink RX2 22 yX0_copyFrom, Cond.instanceMethod yX0_copyFrom, Cond.selects RX0 yX0_copyFrom yX0_copyFrom, Cond.code yX0_copyFrom cX0_copyFrom 2 none]
def wsX6_pass_r3 : List Cond := [Cond.fieldLink RX0 33 "MoodDrawers$Desk" "now" "I", Cond.static yX6_copy, Cond.initialized RX6, Cond.code yX6_copy cX6_copy 2 none, Cond.methodLink RX6 251 Lib.Math.min.name, Cond.static Lib.Math.min.name, Cond.initialized "java/lang/Math", Cond.code Lib.Math.min.name Lib.Math.min.code 2 (some .int), Cond.methodLink RX6 256 arraycopyName, Cond.native arraycopyName, Cond.static arraycopyName, Cond.initialized "java/lang/System", Cond.methodLink RX0 37 yX1_copyFrom, Cond.instanceMethod yX1_copyFrom, Cond.selects RX1 yX1_copyFrom yX1_copyFrom, Cond.code yX1_copyFrom cX1_copyFrom 2 none, Cond.methodLink RX0 41 yX3_copyFrom, Cond.instanceMethod yX3_copyFrom, Cond.selects RX3 yX3_copyFrom yX3_copyFrom, Cond.code yX3_copyFrom cX3_copyFrom 2 none, Cond.fieldLink RX3 33 "MoodDrawers$Letters" "written" "I", Cond.methodLink RX6 69 yX0_passHours, Cond.instanceMethod yX0_passHours, Cond.selects RX0 yX0_passHours yX0_passHours]
def wsX6_pass_r4 : List Cond := [Cond.code yX0_passHours cX0_passHours 4 (some .int), Cond.methodLink RX0 105 yX0_hourOfDay, Cond.instanceMethod yX0_hourOfDay, Cond.selects RX0 yX0_hourOfDay yX0_hourOfDay, Cond.code yX0_hourOfDay cX0_hourOfDay 1 (some .int), Cond.methodLink RX0 108 yX1_turnKeysBy, Cond.instanceMethod yX1_turnKeysBy, Cond.selects RX1 yX1_turnKeysBy yX1_turnKeysBy, Cond.code yX1_turnKeysBy cX1_turnKeysBy 3 none, Cond.methodLink RX0 112 yX0_setThatWouldGo, Cond.instanceMethod yX0_setThatWouldGo, Cond.selects RX0 yX0_setThatWouldGo yX0_setThatWouldGo, Cond.code yX0_setThatWouldGo cX0_setThatWouldGo 5 (some .long), Cond.fieldLink RX0 54 "MoodDrawers$Letters" "written" "I", Cond.fieldLink RX0 83 "MoodDrawers$Drawers" "locked" "[I", Cond.methodLink RX0 128 yX3_lies, Cond.instanceMethod yX3_lies, Cond.selects RX3 yX3_lies yX3_lies, Cond.code yX3_lies cX3_lies 3 (some .boolean), Cond.methodLink RX0 73 yX0_today, Cond.instanceMethod yX0_today, Cond.selects RX0 yX0_today yX0_today, Cond.code yX0_today cX0_today 1 (some .int), Cond.methodLink RX0 132 yX0_readyDay]
def wsX6_pass_r5 : List Cond := [Cond.instanceMethod yX0_readyDay, Cond.selects RX0 yX0_readyDay yX0_readyDay, Cond.code yX0_readyDay cX0_readyDay 6 (some .int), Cond.fieldLink RX0 67 "MoodDrawers$Letters" "heat" "[I", Cond.constant RX0 135 (1000000), Cond.fieldLink RX0 70 "MoodDrawers$Letters" "writtenOn" "[I", Cond.fieldLink RX0 86 "MoodDrawers$Drawers" "restDays" "[I", Cond.methodLink RX0 136 Lib.Math.max.name, Cond.static Lib.Math.max.name, Cond.code Lib.Math.max.name Lib.Math.max.code 2 (some .int), Cond.methodLink RX0 116 yX0_send, Cond.instanceMethod yX0_send, Cond.selects RX0 yX0_send yX0_send, Cond.code yX0_send cX0_send 4 (some .int), Cond.fieldLink RX0 120 "MoodDrawers$Letters" "sentHeat" "[I", Cond.fieldLink RX0 80 "MoodDrawers$Letters" "sentOn" "[I", Cond.fieldLink RX0 61 "MoodDrawers$Letters" "how" "[I", Cond.methodLink RX0 101 yX0_heatNow, Cond.instanceMethod yX0_heatNow, Cond.selects RX0 yX0_heatNow yX0_heatNow, Cond.code yX0_heatNow cX0_heatNow 3 (some .int), Cond.methodLink RX0 123 yJ13_bitCount_95d88, Cond.static yJ13_bitCount_95d88, Cond.initialized RJ13]
def wsX6_pass_r6 : List Cond := [Cond.code yJ13_bitCount_95d88 cJ13_bitCount_95d88 2 (some .int), Cond.constantLong RJ13 314 (6148914691236517205), Cond.constantLong RJ13 316 (3689348814741910323), Cond.constantLong RJ13 318 (1085102592571150095), Cond.methodLink RX6 49 yX6_recorded, Cond.instanceMethod yX6_recorded, Cond.selects RX6 yX6_recorded yX6_recorded, Cond.code yX6_recorded cX6_recorded 2 (some .int), Cond.methodLink RX6 72 yX2_keepPrepared, Cond.instanceMethod yX2_keepPrepared, Cond.selects RX2 yX2_keepPrepared yX2_keepPrepared, Cond.code yX2_keepPrepared cX2_keepPrepared 3 none]
def wsX6_pass : List Cond := .code yX6_pass cX6_pass 2 (some .int) :: ((wsX6_pass_r1 ++ (wsX6_pass_r2 ++ (wsX6_pass_r3 ++ (wsX6_pass_r4 ++ (wsX6_pass_r5 ++ wsX6_pass_r6))))) ++ wsX60 ++ wsX20 ++ wsX00 ++ wsX10 ++ wsX30)
def wsX6_ofLetter_r1 : List Cond := [Cond.fieldLink RX6 10 "MoodDrawers" "desk" "LMoodDrawers$Desk;", Cond.fieldLink RX6 75 "MoodDrawers$Desk" "letters" "LMoodDrawers$Letters;", Cond.fieldLink RX6 85 "MoodDrawers$Letters" "mood" "[I", Cond.fieldLink RX6 89 "MoodDrawers$Letters" "heat" "[I", Cond.fieldLink RX6 95 "MoodDrawers$Letters" "writtenOn" "[I", Cond.fieldLink RX6 98 "MoodDrawers$Letters" "how" "[I", Cond.fieldLink RX6 101 "MoodDrawers$Letters" "sentOn" "[I", Cond.fieldLink RX6 104 "MoodDrawers$Letters" "answered" "[I", Cond.fieldLink RX6 19 "MoodDrawers" "regrets" "LMoodDrawers$Regrets;", Cond.methodLink RX6 79 yX3_isLetter, Cond.instanceMethod yX3_isLetter, Cond.selects RX3 yX3_isLetter yX3_isLetter, Cond.initialized RX3, Cond.code yX3_isLetter cX3_isLetter 2 (some .boolean), Cond.fieldLink RX3 33 "MoodDrawers$Letters" "written" "I", Cond.methodLink RX6 92 yX0_heatNow, Cond.instanceMethod yX0_heatNow, Cond.selects RX0 yX0_heatNow yX0_heatNow, Cond.initialized RX0, Cond.code yX0_heatNow cX0_heatNow 3 (some .int), Cond.fieldLink RX0 25 "MoodDrawers$Desk" "letters" "LMoodDrawers$Letters;", Cond.fieldLink RX0 61 "MoodDrawers$Letters" "how" "[I", Cond.fieldLink RX0 120 "MoodDrawers$Letters" "sentHeat" "[I", Cond.fieldLink RX0 70 "MoodDrawers$Letters" "writtenOn" "[I"]
def wsX6_ofLetter_r2 : List Cond := [Cond.fieldLink RX0 67 "MoodDrawers$Letters" "heat" "[I", Cond.fieldLink RX0 9 "MoodDrawers$Desk" "settings" "[I", Cond.methodLink RX0 136 Lib.Math.max.name, Cond.static Lib.Math.max.name, Cond.initialized "java/lang/Math", Cond.code Lib.Math.max.name Lib.Math.max.code 2 (some .int), Cond.methodLink RX0 73 yX0_today, Cond.instanceMethod yX0_today, Cond.selects RX0 yX0_today yX0_today, Cond.code yX0_today cX0_today 1 (some .int), Cond.fieldLink RX0 33 "MoodDrawers$Desk" "now" "I", Cond.methodLink RX6 107 yX5_ofSent, Cond.instanceMethod yX5_ofSent, Cond.selects RX5 yX5_ofSent yX5_ofSent, Cond.initialized RX5, Cond.code yX5_ofSent cX5_ofSent 3 (some .int), Cond.fieldLink RX5 9 "MoodDrawers$Regrets" "regret" "[I", Cond.methodLink RX5 15 yX5_workOut, Cond.instanceMethod yX5_workOut, Cond.selects RX5 yX5_workOut yX5_workOut, Cond.code yX5_workOut cX5_workOut 6 none, Cond.fieldLink RX5 19 "MoodDrawers$Desk" "letters" "LMoodDrawers$Letters;", Cond.fieldLink RX5 25 "MoodDrawers$Letters" "written" "I", Cond.fieldLink RX5 31 "MoodDrawers$Letters" "how" "[I"]
def wsX6_ofLetter_r3 : List Cond := [Cond.fieldLink RX5 38 "MoodDrawers$Letters" "answered" "[I", Cond.methodLink RX5 45 Lib.Math.max.name, Cond.methodLink RX5 34 yX0_heatNow, Cond.methodLink RX5 41 yX3_isLetter, Cond.methodLink RX6 111 yX3_answersTo, Cond.instanceMethod yX3_answersTo, Cond.selects RX3 yX3_answersTo yX3_answersTo, Cond.code yX3_answersTo cX3_answersTo 4 (some .int), Cond.fieldLink RX3 21 "MoodDrawers$Letters" "answered" "[I", Cond.methodLink RX6 114 yX3_depthOf, Cond.instanceMethod yX3_depthOf, Cond.selects RX3 yX3_depthOf yX3_depthOf, Cond.code yX3_depthOf cX3_depthOf 4 (some .int), Cond.methodLink RX3 41 yX3_isLetter]
def wsX6_ofLetter : List Cond := .code yX6_ofLetter cX6_ofLetter 4 (some .int) :: ((wsX6_ofLetter_r1 ++ (wsX6_ofLetter_r2 ++ wsX6_ofLetter_r3)) ++ wsX60 ++ wsX00 ++ wsX30 ++ wsX50)
def wsX6_ofDrawer_r1 : List Cond := [Cond.fieldLink RX6 10 "MoodDrawers" "desk" "LMoodDrawers$Desk;", Cond.fieldLink RX6 120 "MoodDrawers$Desk" "drawers" "LMoodDrawers$Drawers;", Cond.fieldLink RX6 75 "MoodDrawers$Desk" "letters" "LMoodDrawers$Letters;", Cond.fieldLink RX6 127 "MoodDrawers$Drawers" "locked" "[I", Cond.fieldLink RX6 132 "MoodDrawers$Drawers" "restDays" "[I", Cond.fieldLink RX6 135 "MoodDrawers$Drawers" "unlockHour" "[I", Cond.fieldLink RX6 138 "MoodDrawers$Drawers" "lockHour" "[I", Cond.methodLink RX6 117 yX6_isMood, Cond.static yX6_isMood, Cond.initialized RX6, Cond.code yX6_isMood cX6_isMood 1 (some .boolean), Cond.methodLink RX6 124 yX3_ofMood, Cond.instanceMethod yX3_ofMood, Cond.selects RX3 yX3_ofMood yX3_ofMood, Cond.initialized RX3, Cond.code yX3_ofMood cX3_ofMood 5 (some .int), Cond.fieldLink RX3 33 "MoodDrawers$Letters" "written" "I", Cond.fieldLink RX3 9 "MoodDrawers$Letters" "mood" "[I", Cond.fieldLink RX3 24 "MoodDrawers$Letters" "how" "[I", Cond.methodLink RX6 141 yX0_heatInDrawer, Cond.instanceMethod yX0_heatInDrawer, Cond.selects RX0 yX0_heatInDrawer yX0_heatInDrawer, Cond.initialized RX0, Cond.code yX0_heatInDrawer cX0_heatInDrawer 4 (some .int)]
def wsX6_ofDrawer_r2 : List Cond := [Cond.fieldLink RX0 25 "MoodDrawers$Desk" "letters" "LMoodDrawers$Letters;", Cond.fieldLink RX0 54 "MoodDrawers$Letters" "written" "I", Cond.methodLink RX0 128 yX3_lies, Cond.instanceMethod yX3_lies, Cond.selects RX3 yX3_lies yX3_lies, Cond.code yX3_lies cX3_lies 3 (some .boolean), Cond.methodLink RX0 101 yX0_heatNow, Cond.instanceMethod yX0_heatNow, Cond.selects RX0 yX0_heatNow yX0_heatNow, Cond.code yX0_heatNow cX0_heatNow 3 (some .int), Cond.fieldLink RX0 61 "MoodDrawers$Letters" "how" "[I", Cond.fieldLink RX0 120 "MoodDrawers$Letters" "sentHeat" "[I", Cond.fieldLink RX0 70 "MoodDrawers$Letters" "writtenOn" "[I", Cond.fieldLink RX0 67 "MoodDrawers$Letters" "heat" "[I", Cond.fieldLink RX0 9 "MoodDrawers$Desk" "settings" "[I", Cond.methodLink RX0 136 Lib.Math.max.name, Cond.static Lib.Math.max.name, Cond.initialized "java/lang/Math", Cond.code Lib.Math.max.name Lib.Math.max.code 2 (some .int), Cond.methodLink RX0 73 yX0_today, Cond.instanceMethod yX0_today, Cond.selects RX0 yX0_today yX0_today, Cond.code yX0_today cX0_today 1 (some .int), Cond.fieldLink RX0 33 "MoodDrawers$Desk" "now" "I"]
def wsX6_ofDrawer : List Cond := .code yX6_ofDrawer cX6_ofDrawer 4 (some .int) :: ((wsX6_ofDrawer_r1 ++ wsX6_ofDrawer_r2) ++ wsX60 ++ wsX00 ++ wsX10 ++ wsX30)
def wsX6_letters_r1 : List Cond := [Cond.fieldLink RX6 10 "MoodDrawers" "desk" "LMoodDrawers$Desk;", Cond.fieldLink RX6 75 "MoodDrawers$Desk" "letters" "LMoodDrawers$Letters;", Cond.constantLong RX6 152 (-2), Cond.methodLink RX6 144 yX3_setOf, Cond.instanceMethod yX3_setOf, Cond.selects RX3 yX3_setOf yX3_setOf, Cond.initialized RX3, Cond.code yX3_setOf cX3_setOf 5 (some .long), Cond.fieldLink RX3 33 "MoodDrawers$Letters" "written" "I", Cond.fieldLink RX3 24 "MoodDrawers$Letters" "how" "[I", Cond.methodLink RX6 148 yX0_setThatWouldGo, Cond.instanceMethod yX0_setThatWouldGo, Cond.selects RX0 yX0_setThatWouldGo yX0_setThatWouldGo, Cond.initialized RX0, Cond.code yX0_setThatWouldGo cX0_setThatWouldGo 5 (some .long), Cond.fieldLink RX0 25 "MoodDrawers$Desk" "letters" "LMoodDrawers$Letters;", Cond.fieldLink RX0 54 "MoodDrawers$Letters" "written" "I", Cond.fieldLink RX0 18 "MoodDrawers$Desk" "drawers" "LMoodDrawers$Drawers;", Cond.fieldLink RX0 83 "MoodDrawers$Drawers" "locked" "[I", Cond.methodLink RX0 128 yX3_lies, Cond.instanceMethod yX3_lies, Cond.selects RX3 yX3_lies yX3_lies, Cond.code yX3_lies cX3_lies 3 (some .boolean), Cond.fieldLink RX3 9 "MoodDrawers$Letters" "mood" "[I"]
def wsX6_letters_r2 : List Cond := [Cond.methodLink RX0 73 yX0_today, Cond.instanceMethod yX0_today, Cond.selects RX0 yX0_today yX0_today, Cond.code yX0_today cX0_today 1 (some .int), Cond.fieldLink RX0 33 "MoodDrawers$Desk" "now" "I", Cond.methodLink RX0 132 yX0_readyDay, Cond.instanceMethod yX0_readyDay, Cond.selects RX0 yX0_readyDay yX0_readyDay, Cond.code yX0_readyDay cX0_readyDay 6 (some .int), Cond.fieldLink RX0 67 "MoodDrawers$Letters" "heat" "[I", Cond.fieldLink RX0 9 "MoodDrawers$Desk" "settings" "[I", Cond.constant RX0 135 (1000000), Cond.fieldLink RX0 70 "MoodDrawers$Letters" "writtenOn" "[I", Cond.fieldLink RX0 86 "MoodDrawers$Drawers" "restDays" "[I", Cond.methodLink RX0 136 Lib.Math.max.name, Cond.static Lib.Math.max.name, Cond.initialized "java/lang/Math", Cond.code Lib.Math.max.name Lib.Math.max.code 2 (some .int)]
def wsX6_letters : List Cond := .code yX6_letters cX6_letters 2 (some .long) :: ((wsX6_letters_r1 ++ wsX6_letters_r2) ++ wsX60 ++ wsX00 ++ wsX30 ++ wsX10)
def wsX6_count_r1 : List Cond := [Cond.fieldLink RX6 10 "MoodDrawers" "desk" "LMoodDrawers$Desk;", Cond.fieldLink RX6 75 "MoodDrawers$Desk" "letters" "LMoodDrawers$Letters;", Cond.fieldLink RX6 161 "MoodDrawers$Letters" "written" "I", Cond.fieldLink RX6 120 "MoodDrawers$Desk" "drawers" "LMoodDrawers$Drawers;", Cond.fieldLink RX6 174 "MoodDrawers$Desk" "settings" "[I", Cond.fieldLink RX6 26 "MoodDrawers" "pad" "LMoodDrawers$Pad;", Cond.fieldLink RX6 177 "MoodDrawers$Pad" "length" "I", Cond.fieldLink RX6 33 "MoodDrawers" "history" "LMoodDrawers$History;", Cond.fieldLink RX6 180 "MoodDrawers$History" "kept" "I", Cond.methodLink RX6 154 yX0_today, Cond.instanceMethod yX0_today, Cond.selects RX0 yX0_today yX0_today, Cond.initialized RX0, Cond.code yX0_today cX0_today 1 (some .int), Cond.fieldLink RX0 33 "MoodDrawers$Desk" "now" "I", Cond.methodLink RX6 158 yX0_hourOfDay, Cond.instanceMethod yX0_hourOfDay, Cond.selects RX0 yX0_hourOfDay yX0_hourOfDay, Cond.code yX0_hourOfDay cX0_hourOfDay 1 (some .int), Cond.methodLink RX6 144 yX3_setOf, Cond.instanceMethod yX3_setOf, Cond.selects RX3 yX3_setOf yX3_setOf, Cond.initialized RX3, Cond.code yX3_setOf cX3_setOf 5 (some .long)]
def wsX6_count_r2 : List Cond := [Cond.fieldLink RX3 33 "MoodDrawers$Letters" "written" "I", Cond.fieldLink RX3 24 "MoodDrawers$Letters" "how" "[I", Cond.methodLink RX6 165 yJ13_bitCount_95d88, Cond.static yJ13_bitCount_95d88, Cond.initialized RJ13, Cond.code yJ13_bitCount_95d88 cJ13_bitCount_95d88 2 (some .int), Cond.constantLong RJ13 314 (6148914691236517205), Cond.constantLong RJ13 316 (3689348814741910323), Cond.constantLong RJ13 318 (1085102592571150095), Cond.methodLink RX6 171 yX1_howManyLocked, Cond.instanceMethod yX1_howManyLocked, Cond.selects RX1 yX1_howManyLocked yX1_howManyLocked, Cond.initialized RX1, Cond.code yX1_howManyLocked cX1_howManyLocked 3 (some .int), Cond.fieldLink RX1 15 "MoodDrawers$Drawers" "locked" "[I"]
def wsX6_count : List Cond := .code yX6_count cX6_count 2 (some .int) :: ((wsX6_count_r1 ++ wsX6_count_r2) ++ wsX60 ++ wsX00 ++ wsX30 ++ wsX40 ++ wsX20 ++ wsX10)
def wsX6_bitsOf : List Cond := .code yX6_bitsOf cX6_bitsOf 9 (some .long) :: ([.constantDouble RX6 266 (4611686018427387904)])
def wsX6_meanHeat_r1 : List Cond := [Cond.fieldLink RX6 10 "MoodDrawers" "desk" "LMoodDrawers$Desk;", Cond.fieldLink RX6 75 "MoodDrawers$Desk" "letters" "LMoodDrawers$Letters;", Cond.methodLink RX6 144 yX3_setOf, Cond.instanceMethod yX3_setOf, Cond.selects RX3 yX3_setOf yX3_setOf, Cond.initialized RX3, Cond.code yX3_setOf cX3_setOf 5 (some .long), Cond.fieldLink RX3 33 "MoodDrawers$Letters" "written" "I", Cond.fieldLink RX3 24 "MoodDrawers$Letters" "how" "[I", Cond.methodLink RX6 165 yJ13_bitCount_95d88, Cond.static yJ13_bitCount_95d88, Cond.initialized RJ13, Cond.code yJ13_bitCount_95d88 cJ13_bitCount_95d88 2 (some .int), Cond.constantLong RJ13 314 (6148914691236517205), Cond.constantLong RJ13 316 (3689348814741910323), Cond.constantLong RJ13 318 (1085102592571150095), Cond.methodLink RX6 183 yX3_heatOfSent, Cond.instanceMethod yX3_heatOfSent, Cond.selects RX3 yX3_heatOfSent yX3_heatOfSent, Cond.code yX3_heatOfSent cX3_heatOfSent 3 (some .int), Cond.fieldLink RX3 30 "MoodDrawers$Letters" "sentHeat" "[I", Cond.methodLink RX6 186 yX6_bitsOf, Cond.static yX6_bitsOf, Cond.initialized RX6]
def wsX6_meanHeat_r2 : List Cond := [Cond.code yX6_bitsOf cX6_bitsOf 9 (some .long), Cond.constantDouble RX6 266 (4611686018427387904)]
def wsX6_meanHeat : List Cond := .code yX6_meanHeat cX6_meanHeat 2 (some .long) :: ((wsX6_meanHeat_r1 ++ wsX6_meanHeat_r2) ++ wsX60 ++ wsX00 ++ wsX30)
def wsX6_share : List Cond := .code yX6_share cX6_share 4 (some .int) :: ([.fieldLink RX6 10 "MoodDrawers" "desk" "LMoodDrawers$Desk;", .fieldLink RX6 75 "MoodDrawers$Desk" "letters" "LMoodDrawers$Letters;", .fieldLink RX6 161 "MoodDrawers$Letters" "written" "I", .methodLink RX6 144 yX3_setOf, .instanceMethod yX3_setOf, .selects RX3 yX3_setOf yX3_setOf, .initialized RX3, .code yX3_setOf cX3_setOf 5 (some .long), .fieldLink RX3 33 "MoodDrawers$Letters" "written" "I", .fieldLink RX3 24 "MoodDrawers$Letters" "how" "[I", .methodLink RX6 165 yJ13_bitCount_95d88, .static yJ13_bitCount_95d88, .initialized RJ13, .code yJ13_bitCount_95d88 cJ13_bitCount_95d88 2 (some .int), .constantLong RJ13 314 (6148914691236517205), .constantLong RJ13 316 (3689348814741910323), .constantLong RJ13 318 (1085102592571150095), .methodLink RX6 186 yX6_bitsOf, .static yX6_bitsOf, .initialized RX6, .code yX6_bitsOf cX6_bitsOf 9 (some .long), .constantDouble RX6 266 (4611686018427387904)] ++ wsX60 ++ wsX00 ++ wsX30)
def wsX6_goesIn_r1 : List Cond := [Cond.fieldLink RX6 10 "MoodDrawers" "desk" "LMoodDrawers$Desk;", Cond.fieldLink RX6 75 "MoodDrawers$Desk" "letters" "LMoodDrawers$Letters;", Cond.fieldLink RX6 98 "MoodDrawers$Letters" "how" "[I", Cond.fieldLink RX6 174 "MoodDrawers$Desk" "settings" "[I", Cond.methodLink RX6 79 yX3_isLetter, Cond.instanceMethod yX3_isLetter, Cond.selects RX3 yX3_isLetter yX3_isLetter, Cond.initialized RX3, Cond.code yX3_isLetter cX3_isLetter 2 (some .boolean), Cond.fieldLink RX3 33 "MoodDrawers$Letters" "written" "I", Cond.methodLink RX6 190 yX0_hoursTillSent, Cond.instanceMethod yX0_hoursTillSent, Cond.selects RX0 yX0_hoursTillSent yX0_hoursTillSent, Cond.initialized RX0, Cond.code yX0_hoursTillSent cX0_hoursTillSent 8 (some .int), Cond.fieldLink RX0 25 "MoodDrawers$Desk" "letters" "LMoodDrawers$Letters;", Cond.fieldLink RX0 64 "MoodDrawers$Letters" "mood" "[I", Cond.fieldLink RX0 33 "MoodDrawers$Desk" "now" "I", Cond.methodLink RX0 136 Lib.Math.max.name, Cond.static Lib.Math.max.name, Cond.initialized "java/lang/Math", Cond.code Lib.Math.max.name Lib.Math.max.code 2 (some .int), Cond.fieldLink RX0 18 "MoodDrawers$Desk" "drawers" "LMoodDrawers$Drawers;", Cond.static yX6_isMood]
def wsX6_goesIn_r2 : List Cond := [Cond.initialized RX6, Cond.code yX6_isMood cX6_isMood 1 (some .boolean), Cond.methodLink RX0 132 yX0_readyDay, Cond.instanceMethod yX0_readyDay, Cond.selects RX0 yX0_readyDay yX0_readyDay, Cond.code yX0_readyDay cX0_readyDay 6 (some .int), Cond.fieldLink RX0 67 "MoodDrawers$Letters" "heat" "[I", Cond.fieldLink RX0 9 "MoodDrawers$Desk" "settings" "[I", Cond.constant RX0 135 (1000000), Cond.fieldLink RX0 70 "MoodDrawers$Letters" "writtenOn" "[I", Cond.fieldLink RX0 86 "MoodDrawers$Drawers" "restDays" "[I", Cond.methodLink RX0 141 yJ9_floorMod_7cf53, Cond.static yJ9_floorMod_7cf53, Cond.initialized RJ9, Cond.code yJ9_floorMod_7cf53 cJ9_floorMod_7cf53 3 (some .int), Cond.methodLink RX0 144 yX1_isLockedAt, Cond.instanceMethod yX1_isLockedAt, Cond.selects RX1 yX1_isLockedAt yX1_isLockedAt, Cond.initialized RX1, Cond.code yX1_isLockedAt cX1_isLockedAt 6 (some .boolean), Cond.fieldLink RX1 18 "MoodDrawers$Drawers" "unlockHour" "[I", Cond.fieldLink RX1 15 "MoodDrawers$Drawers" "locked" "[I", Cond.fieldLink RX1 21 "MoodDrawers$Drawers" "lockHour" "[I", Cond.methodLink RX1 34 Lib.Math.min.name]
def wsX6_goesIn_r3 : List Cond := [Cond.static Lib.Math.min.name, Cond.code Lib.Math.min.name Lib.Math.min.code 2 (some .int), Cond.methodLink RX1 28 yJ9_floorMod_7cf53]
def wsX6_goesIn : List Cond := .code yX6_goesIn cX6_goesIn 3 (some .int) :: ((wsX6_goesIn_r1 ++ (wsX6_goesIn_r2 ++ wsX6_goesIn_r3)) ++ wsX60 ++ wsX00 ++ wsX30 ++ wsX10)
def wsX6_bestPost_r1 : List Cond := [Cond.fieldLink RX6 10 "MoodDrawers" "desk" "LMoodDrawers$Desk;", Cond.methodLink RX6 193 yX0_sentWithin, Cond.instanceMethod yX0_sentWithin, Cond.selects RX0 yX0_sentWithin yX0_sentWithin, Cond.initialized RX0, Cond.code yX0_sentWithin cX0_sentWithin 5 (some .int), Cond.fieldLink RX0 25 "MoodDrawers$Desk" "letters" "LMoodDrawers$Letters;", Cond.fieldLink RX0 54 "MoodDrawers$Letters" "written" "I", Cond.fieldLink RX0 61 "MoodDrawers$Letters" "how" "[I", Cond.methodLink RX0 148 yX0_hoursTillSent, Cond.instanceMethod yX0_hoursTillSent, Cond.selects RX0 yX0_hoursTillSent yX0_hoursTillSent, Cond.code yX0_hoursTillSent cX0_hoursTillSent 8 (some .int), Cond.fieldLink RX0 64 "MoodDrawers$Letters" "mood" "[I", Cond.fieldLink RX0 33 "MoodDrawers$Desk" "now" "I", Cond.methodLink RX0 136 Lib.Math.max.name, Cond.static Lib.Math.max.name, Cond.initialized "java/lang/Math", Cond.code Lib.Math.max.name Lib.Math.max.code 2 (some .int), Cond.fieldLink RX0 18 "MoodDrawers$Desk" "drawers" "LMoodDrawers$Drawers;", Cond.static yX6_isMood, Cond.initialized RX6, Cond.code yX6_isMood cX6_isMood 1 (some .boolean), Cond.methodLink RX0 132 yX0_readyDay]
def wsX6_bestPost_r2 : List Cond := [Cond.instanceMethod yX0_readyDay, Cond.selects RX0 yX0_readyDay yX0_readyDay, Cond.code yX0_readyDay cX0_readyDay 6 (some .int), Cond.fieldLink RX0 67 "MoodDrawers$Letters" "heat" "[I", Cond.fieldLink RX0 9 "MoodDrawers$Desk" "settings" "[I", Cond.constant RX0 135 (1000000), Cond.fieldLink RX0 70 "MoodDrawers$Letters" "writtenOn" "[I", Cond.fieldLink RX0 86 "MoodDrawers$Drawers" "restDays" "[I", Cond.methodLink RX0 141 yJ9_floorMod_7cf53, Cond.static yJ9_floorMod_7cf53, Cond.initialized RJ9, Cond.code yJ9_floorMod_7cf53 cJ9_floorMod_7cf53 3 (some .int), Cond.methodLink RX0 144 yX1_isLockedAt, Cond.instanceMethod yX1_isLockedAt, Cond.selects RX1 yX1_isLockedAt yX1_isLockedAt, Cond.initialized RX1, Cond.code yX1_isLockedAt cX1_isLockedAt 6 (some .boolean), Cond.fieldLink RX1 18 "MoodDrawers$Drawers" "unlockHour" "[I", Cond.fieldLink RX1 15 "MoodDrawers$Drawers" "locked" "[I", Cond.fieldLink RX1 21 "MoodDrawers$Drawers" "lockHour" "[I", Cond.methodLink RX1 34 Lib.Math.min.name, Cond.static Lib.Math.min.name, Cond.code Lib.Math.min.name Lib.Math.min.code 2 (some .int), Cond.methodLink RX1 28 yJ9_floorMod_7cf53]
def wsX6_bestPost : List Cond := .code yX6_bestPost cX6_bestPost 7 (some .int) :: ((wsX6_bestPost_r1 ++ wsX6_bestPost_r2) ++ wsX60 ++ wsX00 ++ wsX30 ++ wsX10)
def wsX6_mostRegretted_r1 : List Cond := [Cond.fieldLink RX6 19 "MoodDrawers" "regrets" "LMoodDrawers$Regrets;", Cond.fieldLink RX6 10 "MoodDrawers" "desk" "LMoodDrawers$Desk;", Cond.methodLink RX6 196 yX5_greatest, Cond.instanceMethod yX5_greatest, Cond.selects RX5 yX5_greatest yX5_greatest, Cond.initialized RX5, Cond.code yX5_greatest cX5_greatest 5 (some .int), Cond.fieldLink RX5 19 "MoodDrawers$Desk" "letters" "LMoodDrawers$Letters;", Cond.fieldLink RX5 25 "MoodDrawers$Letters" "written" "I", Cond.fieldLink RX5 31 "MoodDrawers$Letters" "how" "[I", Cond.fieldLink RX5 9 "MoodDrawers$Regrets" "regret" "[I", Cond.methodLink RX5 15 yX5_workOut, Cond.instanceMethod yX5_workOut, Cond.selects RX5 yX5_workOut yX5_workOut, Cond.code yX5_workOut cX5_workOut 6 none, Cond.fieldLink RX5 38 "MoodDrawers$Letters" "answered" "[I", Cond.methodLink RX5 45 Lib.Math.max.name, Cond.static Lib.Math.max.name, Cond.initialized "java/lang/Math", Cond.code Lib.Math.max.name Lib.Math.max.code 2 (some .int), Cond.methodLink RX5 34 yX0_heatNow, Cond.instanceMethod yX0_heatNow, Cond.selects RX0 yX0_heatNow yX0_heatNow, Cond.initialized RX0]
def wsX6_mostRegretted_r2 : List Cond := [Cond.code yX0_heatNow cX0_heatNow 3 (some .int), Cond.fieldLink RX0 25 "MoodDrawers$Desk" "letters" "LMoodDrawers$Letters;", Cond.fieldLink RX0 61 "MoodDrawers$Letters" "how" "[I", Cond.fieldLink RX0 120 "MoodDrawers$Letters" "sentHeat" "[I", Cond.fieldLink RX0 70 "MoodDrawers$Letters" "writtenOn" "[I", Cond.fieldLink RX0 67 "MoodDrawers$Letters" "heat" "[I", Cond.fieldLink RX0 9 "MoodDrawers$Desk" "settings" "[I", Cond.methodLink RX0 136 Lib.Math.max.name, Cond.methodLink RX0 73 yX0_today, Cond.instanceMethod yX0_today, Cond.selects RX0 yX0_today yX0_today, Cond.code yX0_today cX0_today 1 (some .int), Cond.fieldLink RX0 33 "MoodDrawers$Desk" "now" "I", Cond.methodLink RX5 41 yX3_isLetter, Cond.instanceMethod yX3_isLetter, Cond.selects RX3 yX3_isLetter yX3_isLetter, Cond.initialized RX3, Cond.code yX3_isLetter cX3_isLetter 2 (some .boolean), Cond.fieldLink RX3 33 "MoodDrawers$Letters" "written" "I"]
def wsX6_mostRegretted : List Cond := .code yX6_mostRegretted cX6_mostRegretted 1 (some .int) :: ((wsX6_mostRegretted_r1 ++ wsX6_mostRegretted_r2) ++ wsX60 ++ wsX00 ++ wsX30 ++ wsX50)
def wsX6_ifSent_r1 : List Cond := [Cond.fieldLink RX6 10 "MoodDrawers" "desk" "LMoodDrawers$Desk;", Cond.fieldLink RX6 75 "MoodDrawers$Desk" "letters" "LMoodDrawers$Letters;", Cond.fieldLink RX6 98 "MoodDrawers$Letters" "how" "[I", Cond.fieldLink RX6 19 "MoodDrawers" "regrets" "LMoodDrawers$Regrets;", Cond.methodLink RX6 79 yX3_isLetter, Cond.instanceMethod yX3_isLetter, Cond.selects RX3 yX3_isLetter yX3_isLetter, Cond.initialized RX3, Cond.code yX3_isLetter cX3_isLetter 2 (some .boolean), Cond.fieldLink RX3 33 "MoodDrawers$Letters" "written" "I", Cond.methodLink RX6 200 yX5_withSent, Cond.instanceMethod yX5_withSent, Cond.selects RX5 yX5_withSent yX5_withSent, Cond.initialized RX5, Cond.code yX5_withSent cX5_withSent 4 (some .int), Cond.fieldLink RX5 9 "MoodDrawers$Regrets" "regret" "[I", Cond.methodLink RX5 15 yX5_workOut, Cond.instanceMethod yX5_workOut, Cond.selects RX5 yX5_workOut yX5_workOut, Cond.code yX5_workOut cX5_workOut 6 none, Cond.fieldLink RX5 19 "MoodDrawers$Desk" "letters" "LMoodDrawers$Letters;", Cond.fieldLink RX5 25 "MoodDrawers$Letters" "written" "I", Cond.fieldLink RX5 31 "MoodDrawers$Letters" "how" "[I", Cond.fieldLink RX5 38 "MoodDrawers$Letters" "answered" "[I"]
def wsX6_ifSent_r2 : List Cond := [Cond.methodLink RX5 45 Lib.Math.max.name, Cond.static Lib.Math.max.name, Cond.initialized "java/lang/Math", Cond.code Lib.Math.max.name Lib.Math.max.code 2 (some .int), Cond.methodLink RX5 34 yX0_heatNow, Cond.instanceMethod yX0_heatNow, Cond.selects RX0 yX0_heatNow yX0_heatNow, Cond.initialized RX0, Cond.code yX0_heatNow cX0_heatNow 3 (some .int), Cond.fieldLink RX0 25 "MoodDrawers$Desk" "letters" "LMoodDrawers$Letters;", Cond.fieldLink RX0 61 "MoodDrawers$Letters" "how" "[I", Cond.fieldLink RX0 120 "MoodDrawers$Letters" "sentHeat" "[I", Cond.fieldLink RX0 70 "MoodDrawers$Letters" "writtenOn" "[I", Cond.fieldLink RX0 67 "MoodDrawers$Letters" "heat" "[I", Cond.fieldLink RX0 9 "MoodDrawers$Desk" "settings" "[I", Cond.methodLink RX0 136 Lib.Math.max.name, Cond.methodLink RX0 73 yX0_today, Cond.instanceMethod yX0_today, Cond.selects RX0 yX0_today yX0_today, Cond.code yX0_today cX0_today 1 (some .int), Cond.fieldLink RX0 33 "MoodDrawers$Desk" "now" "I", Cond.methodLink RX5 41 yX3_isLetter]
def wsX6_ifSent : List Cond := .code yX6_ifSent cX6_ifSent 4 (some .int) :: ((wsX6_ifSent_r1 ++ wsX6_ifSent_r2) ++ wsX60 ++ wsX00 ++ wsX30 ++ wsX50)
def wsX6_charactersIn : List Cond := .code yX6_charactersIn cX6_charactersIn 7 (some .int) :: ([.constantLong RX6 207 (255), .constantLong RX6 262 (33), .constantLong RX6 264 (126)])
def wsX6_put : List Cond := .code yX6_put cX6_put 5 (some .int) :: ([.fieldLink RX6 26 "MoodDrawers" "pad" "LMoodDrawers$Pad;", .fieldLink RX6 177 "MoodDrawers$Pad" "length" "I", .constantLong RX6 207 (255), .methodLink RX6 204 yX6_charactersIn, .static yX6_charactersIn, .initialized RX6, .code yX6_charactersIn cX6_charactersIn 7 (some .int), .constantLong RX6 262 (33), .constantLong RX6 264 (126), .methodLink RX6 209 yX4_append, .instanceMethod yX4_append, .selects RX4 yX4_append yX4_append, .initialized RX4, .code yX4_append cX4_append 2 none, .fieldLink RX4 15 "MoodDrawers$Pad" "length" "I", .fieldLink RX4 9 "MoodDrawers$Pad" "text" "[C"] ++ wsX60 ++ wsX40)
def wsX6_wipe : List Cond := .code yX6_wipe cX6_wipe 2 (some .int) :: ([.fieldLink RX6 26 "MoodDrawers" "pad" "LMoodDrawers$Pad;", .fieldLink RX6 177 "MoodDrawers$Pad" "length" "I"] ++ wsX60 ++ wsX40)
def wsX6_fault_r1 : List Cond := [Cond.fieldLink RX6 26 "MoodDrawers" "pad" "LMoodDrawers$Pad;", Cond.methodLink RX6 213 yX4_faultIndex, Cond.instanceMethod yX4_faultIndex, Cond.selects RX4 yX4_faultIndex yX4_faultIndex, Cond.initialized RX4, Cond.code yX4_faultIndex cX4_faultIndex 2 (some .int), Cond.fieldLink RX4 19 "MoodDrawers$Pad" "at" "I", Cond.fieldLink RX4 15 "MoodDrawers$Pad" "length" "I", Cond.methodLink RX4 22 yX4_readOrder, Cond.instanceMethod yX4_readOrder, Cond.selects RX4 yX4_readOrder yX4_readOrder, Cond.code yX4_readOrder cX4_readOrder 1 (some .boolean), Cond.fieldLink RX4 34 "MoodDrawers$Pad" "kind" "I", Cond.fieldLink RX4 37 "MoodDrawers$Pad" "second" "I", Cond.methodLink RX4 30 yX4_next, Cond.instanceMethod yX4_next, Cond.selects RX4 yX4_next yX4_next, Cond.code yX4_next cX4_next 1 (some .char), Cond.fieldLink RX4 9 "MoodDrawers$Pad" "text" "[C", Cond.methodLink RX4 26 yX4_take, Cond.instanceMethod yX4_take, Cond.selects RX4 yX4_take yX4_take, Cond.code yX4_take cX4_take 2 (some .boolean), Cond.methodLink RX4 40 yX4_readMood]
def wsX6_fault_r2 : List Cond := [Cond.instanceMethod yX4_readMood, Cond.selects RX4 yX4_readMood yX4_readMood, Cond.code yX4_readMood cX4_readMood 1 (some .boolean), Cond.fieldLink RX4 49 "MoodDrawers$Pad" "mood" "I", Cond.static yX6_isMood, Cond.initialized RX6, Cond.code yX6_isMood cX6_isMood 1 (some .boolean), Cond.methodLink RX4 43 yX4_readFirst, Cond.instanceMethod yX4_readFirst, Cond.selects RX4 yX4_readFirst yX4_readFirst, Cond.code yX4_readFirst cX4_readFirst 1 (some .boolean), Cond.fieldLink RX4 60 "MoodDrawers$Pad" "first" "I", Cond.methodLink RX4 56 yX4_readNumber, Cond.instanceMethod yX4_readNumber, Cond.selects RX4 yX4_readNumber yX4_readNumber, Cond.code yX4_readNumber cX4_readNumber 2 (some .int), Cond.methodLink RX4 63 yX4_isDigit, Cond.static yX4_isDigit, Cond.code yX4_isDigit cX4_isDigit 1 (some .boolean), Cond.methodLink RX4 46 yX4_readSecond, Cond.instanceMethod yX4_readSecond, Cond.selects RX4 yX4_readSecond yX4_readSecond, Cond.code yX4_readSecond cX4_readSecond 1 (some .boolean)]
def wsX6_fault : List Cond := .code yX6_fault cX6_fault 1 (some .int) :: ((wsX6_fault_r1 ++ wsX6_fault_r2) ++ wsX60 ++ wsX40)
def wsX6_carryOutOrder_r1 : List Cond := [Cond.fieldLink RX6 26 "MoodDrawers" "pad" "LMoodDrawers$Pad;", Cond.fieldLink RX6 240 "MoodDrawers$Pad" "kind" "I", Cond.fieldLink RX6 10 "MoodDrawers" "desk" "LMoodDrawers$Desk;", Cond.fieldLink RX6 243 "MoodDrawers$Pad" "mood" "I", Cond.fieldLink RX6 245 "MoodDrawers$Pad" "first" "I", Cond.fieldLink RX6 248 "MoodDrawers$Pad" "second" "I", Cond.methodLink RX6 53 yX0_writeLetter, Cond.instanceMethod yX0_writeLetter, Cond.selects RX0 yX0_writeLetter yX0_writeLetter, Cond.initialized RX0, Cond.code yX0_writeLetter cX0_writeLetter 5 (some .int), Cond.fieldLink RX0 25 "MoodDrawers$Desk" "letters" "LMoodDrawers$Letters;", Cond.fieldLink RX0 54 "MoodDrawers$Letters" "written" "I", Cond.fieldLink RX0 61 "MoodDrawers$Letters" "how" "[I", Cond.fieldLink RX0 64 "MoodDrawers$Letters" "mood" "[I", Cond.fieldLink RX0 67 "MoodDrawers$Letters" "heat" "[I", Cond.fieldLink RX0 70 "MoodDrawers$Letters" "writtenOn" "[I", Cond.fieldLink RX0 77 "MoodDrawers$Letters" "answered" "[I", Cond.fieldLink RX0 80 "MoodDrawers$Letters" "sentOn" "[I", Cond.static yX6_isMood, Cond.initialized RX6, Cond.code yX6_isMood cX6_isMood 1 (some .boolean), Cond.methodLink RX0 51 yX3_isLetter, Cond.instanceMethod yX3_isLetter]
def wsX6_carryOutOrder_r2 : List Cond := [Cond.selects RX3 yX3_isLetter yX3_isLetter, Cond.initialized RX3, Cond.code yX3_isLetter cX3_isLetter 2 (some .boolean), Cond.fieldLink RX3 33 "MoodDrawers$Letters" "written" "I", Cond.methodLink RX0 57 yX3_ofMood, Cond.instanceMethod yX3_ofMood, Cond.selects RX3 yX3_ofMood yX3_ofMood, Cond.code yX3_ofMood cX3_ofMood 5 (some .int), Cond.fieldLink RX3 9 "MoodDrawers$Letters" "mood" "[I", Cond.fieldLink RX3 24 "MoodDrawers$Letters" "how" "[I", Cond.methodLink RX0 73 yX0_today, Cond.instanceMethod yX0_today, Cond.selects RX0 yX0_today yX0_today, Cond.code yX0_today cX0_today 1 (some .int), Cond.fieldLink RX0 33 "MoodDrawers$Desk" "now" "I", Cond.methodLink RX6 57 yX0_turnKey, Cond.instanceMethod yX0_turnKey, Cond.selects RX0 yX0_turnKey yX0_turnKey, Cond.code yX0_turnKey cX0_turnKey 2 (some .int), Cond.fieldLink RX0 18 "MoodDrawers$Desk" "drawers" "LMoodDrawers$Drawers;", Cond.fieldLink RX0 83 "MoodDrawers$Drawers" "locked" "[I", Cond.methodLink RX6 69 yX0_passHours, Cond.instanceMethod yX0_passHours, Cond.selects RX0 yX0_passHours yX0_passHours]
def wsX6_carryOutOrder_r3 : List Cond := [Cond.code yX0_passHours cX0_passHours 4 (some .int), Cond.fieldLink RX0 9 "MoodDrawers$Desk" "settings" "[I", Cond.methodLink RX0 105 yX0_hourOfDay, Cond.instanceMethod yX0_hourOfDay, Cond.selects RX0 yX0_hourOfDay yX0_hourOfDay, Cond.code yX0_hourOfDay cX0_hourOfDay 1 (some .int), Cond.methodLink RX0 108 yX1_turnKeysBy, Cond.instanceMethod yX1_turnKeysBy, Cond.selects RX1 yX1_turnKeysBy yX1_turnKeysBy, Cond.initialized RX1, Cond.code yX1_turnKeysBy cX1_turnKeysBy 3 none, Cond.fieldLink RX1 18 "MoodDrawers$Drawers" "unlockHour" "[I", Cond.fieldLink RX1 15 "MoodDrawers$Drawers" "locked" "[I", Cond.fieldLink RX1 21 "MoodDrawers$Drawers" "lockHour" "[I", Cond.methodLink RX0 112 yX0_setThatWouldGo, Cond.instanceMethod yX0_setThatWouldGo, Cond.selects RX0 yX0_setThatWouldGo yX0_setThatWouldGo, Cond.code yX0_setThatWouldGo cX0_setThatWouldGo 5 (some .long), Cond.methodLink RX0 128 yX3_lies, Cond.instanceMethod yX3_lies, Cond.selects RX3 yX3_lies yX3_lies, Cond.code yX3_lies cX3_lies 3 (some .boolean), Cond.methodLink RX0 132 yX0_readyDay, Cond.instanceMethod yX0_readyDay]
def wsX6_carryOutOrder_r4 : List Cond := [Cond.selects RX0 yX0_readyDay yX0_readyDay, Cond.code yX0_readyDay cX0_readyDay 6 (some .int), Cond.constant RX0 135 (1000000), Cond.fieldLink RX0 86 "MoodDrawers$Drawers" "restDays" "[I", Cond.methodLink RX0 136 Lib.Math.max.name, Cond.static Lib.Math.max.name, Cond.initialized "java/lang/Math", Cond.code Lib.Math.max.name Lib.Math.max.code 2 (some .int), Cond.methodLink RX0 116 yX0_send, Cond.instanceMethod yX0_send, Cond.selects RX0 yX0_send yX0_send, Cond.code yX0_send cX0_send 4 (some .int), Cond.fieldLink RX0 120 "MoodDrawers$Letters" "sentHeat" "[I", Cond.methodLink RX0 101 yX0_heatNow, Cond.instanceMethod yX0_heatNow, Cond.selects RX0 yX0_heatNow yX0_heatNow, Cond.code yX0_heatNow cX0_heatNow 3 (some .int), Cond.methodLink RX0 123 yJ13_bitCount_95d88, Cond.static yJ13_bitCount_95d88, Cond.initialized RJ13, Cond.code yJ13_bitCount_95d88 cJ13_bitCount_95d88 2 (some .int), Cond.constantLong RJ13 314 (6148914691236517205), Cond.constantLong RJ13 316 (3689348814741910323), Cond.constantLong RJ13 318 (1085102592571150095)]
def wsX6_carryOutOrder_r5 : List Cond := [Cond.methodLink RX6 66 yX0_burnLetter, Cond.instanceMethod yX0_burnLetter, Cond.selects RX0 yX0_burnLetter yX0_burnLetter, Cond.code yX0_burnLetter cX0_burnLetter 2 (some .int), Cond.methodLink RX0 98 yX0_isShut, Cond.instanceMethod yX0_isShut, Cond.selects RX0 yX0_isShut yX0_isShut, Cond.code yX0_isShut cX0_isShut 2 (some .boolean), Cond.methodLink RX6 63 yX0_changeHours, Cond.instanceMethod yX0_changeHours, Cond.selects RX0 yX0_changeHours yX0_changeHours, Cond.code yX0_changeHours cX0_changeHours 5 (some .int), Cond.fieldLink RX0 92 "MoodDrawers$Drawers" "unlockHour" "[I", Cond.fieldLink RX0 95 "MoodDrawers$Drawers" "lockHour" "[I", Cond.static yX6_isHour, Cond.code yX6_isHour cX6_isHour 1 (some .boolean)]
def wsX6_carryOutOrder : List Cond := .code yX6_carryOutOrder cX6_carryOutOrder 1 (some .int) :: ((wsX6_carryOutOrder_r1 ++ (wsX6_carryOutOrder_r2 ++ (wsX6_carryOutOrder_r3 ++ (wsX6_carryOutOrder_r4 ++ wsX6_carryOutOrder_r5)))) ++ wsX60 ++ wsX40 ++ wsX00 ++ wsX30 ++ wsX10)
def wsX6_carryOutOrders_r1 : List Cond := [Cond.fieldLink RX6 26 "MoodDrawers" "pad" "LMoodDrawers$Pad;", Cond.fieldLink RX6 226 "MoodDrawers$Pad" "at" "I", Cond.methodLink RX6 229 yX4_readOrder, Cond.instanceMethod yX4_readOrder, Cond.selects RX4 yX4_readOrder yX4_readOrder, Cond.initialized RX4, Cond.code yX4_readOrder cX4_readOrder 1 (some .boolean), Cond.fieldLink RX4 34 "MoodDrawers$Pad" "kind" "I", Cond.fieldLink RX4 37 "MoodDrawers$Pad" "second" "I", Cond.methodLink RX4 30 yX4_next, Cond.instanceMethod yX4_next, Cond.selects RX4 yX4_next yX4_next, Cond.code yX4_next cX4_next 1 (some .char), Cond.fieldLink RX4 19 "MoodDrawers$Pad" "at" "I", Cond.fieldLink RX4 15 "MoodDrawers$Pad" "length" "I", Cond.fieldLink RX4 9 "MoodDrawers$Pad" "text" "[C", Cond.methodLink RX4 26 yX4_take, Cond.instanceMethod yX4_take, Cond.selects RX4 yX4_take yX4_take, Cond.code yX4_take cX4_take 2 (some .boolean), Cond.methodLink RX4 40 yX4_readMood, Cond.instanceMethod yX4_readMood, Cond.selects RX4 yX4_readMood yX4_readMood, Cond.code yX4_readMood cX4_readMood 1 (some .boolean)]
def wsX6_carryOutOrders_r2 : List Cond := [Cond.fieldLink RX4 49 "MoodDrawers$Pad" "mood" "I", Cond.static yX6_isMood, Cond.initialized RX6, Cond.code yX6_isMood cX6_isMood 1 (some .boolean), Cond.methodLink RX4 43 yX4_readFirst, Cond.instanceMethod yX4_readFirst, Cond.selects RX4 yX4_readFirst yX4_readFirst, Cond.code yX4_readFirst cX4_readFirst 1 (some .boolean), Cond.fieldLink RX4 60 "MoodDrawers$Pad" "first" "I", Cond.methodLink RX4 56 yX4_readNumber, Cond.instanceMethod yX4_readNumber, Cond.selects RX4 yX4_readNumber yX4_readNumber, Cond.code yX4_readNumber cX4_readNumber 2 (some .int), Cond.methodLink RX4 63 yX4_isDigit, Cond.static yX4_isDigit, Cond.code yX4_isDigit cX4_isDigit 1 (some .boolean), Cond.methodLink RX4 46 yX4_readSecond, Cond.instanceMethod yX4_readSecond, Cond.selects RX4 yX4_readSecond yX4_readSecond, Cond.code yX4_readSecond cX4_readSecond 1 (some .boolean), Cond.methodLink RX6 233 yX6_carryOutOrder, Cond.instanceMethod yX6_carryOutOrder, Cond.selects RX6 yX6_carryOutOrder yX6_carryOutOrder, Cond.code yX6_carryOutOrder cX6_carryOutOrder 1 (some .int)]
def wsX6_carryOutOrders_r3 : List Cond := [Cond.fieldLink RX6 240 "MoodDrawers$Pad" "kind" "I", Cond.fieldLink RX6 10 "MoodDrawers" "desk" "LMoodDrawers$Desk;", Cond.fieldLink RX6 243 "MoodDrawers$Pad" "mood" "I", Cond.fieldLink RX6 245 "MoodDrawers$Pad" "first" "I", Cond.fieldLink RX6 248 "MoodDrawers$Pad" "second" "I", Cond.methodLink RX6 53 yX0_writeLetter, Cond.instanceMethod yX0_writeLetter, Cond.selects RX0 yX0_writeLetter yX0_writeLetter, Cond.initialized RX0, Cond.code yX0_writeLetter cX0_writeLetter 5 (some .int), Cond.fieldLink RX0 25 "MoodDrawers$Desk" "letters" "LMoodDrawers$Letters;", Cond.fieldLink RX0 54 "MoodDrawers$Letters" "written" "I", Cond.fieldLink RX0 61 "MoodDrawers$Letters" "how" "[I", Cond.fieldLink RX0 64 "MoodDrawers$Letters" "mood" "[I", Cond.fieldLink RX0 67 "MoodDrawers$Letters" "heat" "[I", Cond.fieldLink RX0 70 "MoodDrawers$Letters" "writtenOn" "[I", Cond.fieldLink RX0 77 "MoodDrawers$Letters" "answered" "[I", Cond.fieldLink RX0 80 "MoodDrawers$Letters" "sentOn" "[I", Cond.methodLink RX0 51 yX3_isLetter, Cond.instanceMethod yX3_isLetter, Cond.selects RX3 yX3_isLetter yX3_isLetter, Cond.initialized RX3, Cond.code yX3_isLetter cX3_isLetter 2 (some .boolean), Cond.fieldLink RX3 33 "MoodDrawers$Letters" "written" "I"]
def wsX6_carryOutOrders_r4 : List Cond := [Cond.methodLink RX0 57 yX3_ofMood, Cond.instanceMethod yX3_ofMood, Cond.selects RX3 yX3_ofMood yX3_ofMood, Cond.code yX3_ofMood cX3_ofMood 5 (some .int), Cond.fieldLink RX3 9 "MoodDrawers$Letters" "mood" "[I", Cond.fieldLink RX3 24 "MoodDrawers$Letters" "how" "[I", Cond.methodLink RX0 73 yX0_today, Cond.instanceMethod yX0_today, Cond.selects RX0 yX0_today yX0_today, Cond.code yX0_today cX0_today 1 (some .int), Cond.fieldLink RX0 33 "MoodDrawers$Desk" "now" "I", Cond.methodLink RX6 57 yX0_turnKey, Cond.instanceMethod yX0_turnKey, Cond.selects RX0 yX0_turnKey yX0_turnKey, Cond.code yX0_turnKey cX0_turnKey 2 (some .int), Cond.fieldLink RX0 18 "MoodDrawers$Desk" "drawers" "LMoodDrawers$Drawers;", Cond.fieldLink RX0 83 "MoodDrawers$Drawers" "locked" "[I", Cond.methodLink RX6 69 yX0_passHours, Cond.instanceMethod yX0_passHours, Cond.selects RX0 yX0_passHours yX0_passHours, Cond.code yX0_passHours cX0_passHours 4 (some .int), Cond.fieldLink RX0 9 "MoodDrawers$Desk" "settings" "[I", Cond.methodLink RX0 105 yX0_hourOfDay, Cond.instanceMethod yX0_hourOfDay]
def wsX6_carryOutOrders_r5 : List Cond := [Cond.selects RX0 yX0_hourOfDay yX0_hourOfDay, Cond.code yX0_hourOfDay cX0_hourOfDay 1 (some .int), Cond.methodLink RX0 108 yX1_turnKeysBy, Cond.instanceMethod yX1_turnKeysBy, Cond.selects RX1 yX1_turnKeysBy yX1_turnKeysBy, Cond.initialized RX1, Cond.code yX1_turnKeysBy cX1_turnKeysBy 3 none, Cond.fieldLink RX1 18 "MoodDrawers$Drawers" "unlockHour" "[I", Cond.fieldLink RX1 15 "MoodDrawers$Drawers" "locked" "[I", Cond.fieldLink RX1 21 "MoodDrawers$Drawers" "lockHour" "[I", Cond.methodLink RX0 112 yX0_setThatWouldGo, Cond.instanceMethod yX0_setThatWouldGo, Cond.selects RX0 yX0_setThatWouldGo yX0_setThatWouldGo, Cond.code yX0_setThatWouldGo cX0_setThatWouldGo 5 (some .long), Cond.methodLink RX0 128 yX3_lies, Cond.instanceMethod yX3_lies, Cond.selects RX3 yX3_lies yX3_lies, Cond.code yX3_lies cX3_lies 3 (some .boolean), Cond.methodLink RX0 132 yX0_readyDay, Cond.instanceMethod yX0_readyDay, Cond.selects RX0 yX0_readyDay yX0_readyDay, Cond.code yX0_readyDay cX0_readyDay 6 (some .int), Cond.constant RX0 135 (1000000), Cond.fieldLink RX0 86 "MoodDrawers$Drawers" "restDays" "[I"]
def wsX6_carryOutOrders_r6 : List Cond := [Cond.methodLink RX0 136 Lib.Math.max.name, Cond.static Lib.Math.max.name, Cond.initialized "java/lang/Math", Cond.code Lib.Math.max.name Lib.Math.max.code 2 (some .int), Cond.methodLink RX0 116 yX0_send, Cond.instanceMethod yX0_send, Cond.selects RX0 yX0_send yX0_send, Cond.code yX0_send cX0_send 4 (some .int), Cond.fieldLink RX0 120 "MoodDrawers$Letters" "sentHeat" "[I", Cond.methodLink RX0 101 yX0_heatNow, Cond.instanceMethod yX0_heatNow, Cond.selects RX0 yX0_heatNow yX0_heatNow, Cond.code yX0_heatNow cX0_heatNow 3 (some .int), Cond.methodLink RX0 123 yJ13_bitCount_95d88, Cond.static yJ13_bitCount_95d88, Cond.initialized RJ13, Cond.code yJ13_bitCount_95d88 cJ13_bitCount_95d88 2 (some .int), Cond.constantLong RJ13 314 (6148914691236517205), Cond.constantLong RJ13 316 (3689348814741910323), Cond.constantLong RJ13 318 (1085102592571150095), Cond.methodLink RX6 66 yX0_burnLetter, Cond.instanceMethod yX0_burnLetter, Cond.selects RX0 yX0_burnLetter yX0_burnLetter, Cond.code yX0_burnLetter cX0_burnLetter 2 (some .int)]
def wsX6_carryOutOrders_r7 : List Cond := [Cond.methodLink RX0 98 yX0_isShut, Cond.instanceMethod yX0_isShut, Cond.selects RX0 yX0_isShut yX0_isShut, Cond.code yX0_isShut cX0_isShut 2 (some .boolean), Cond.methodLink RX6 63 yX0_changeHours, Cond.instanceMethod yX0_changeHours, Cond.selects RX0 yX0_changeHours yX0_changeHours, Cond.code yX0_changeHours cX0_changeHours 5 (some .int), Cond.fieldLink RX0 92 "MoodDrawers$Drawers" "unlockHour" "[I", Cond.fieldLink RX0 95 "MoodDrawers$Drawers" "lockHour" "[I", Cond.static yX6_isHour, Cond.code yX6_isHour cX6_isHour 1 (some .boolean), Cond.methodLink RX6 236 yX4_take]
def wsX6_carryOutOrders : List Cond := .code yX6_carryOutOrders cX6_carryOutOrders 2 (some .int) :: ((wsX6_carryOutOrders_r1 ++ (wsX6_carryOutOrders_r2 ++ (wsX6_carryOutOrders_r3 ++ (wsX6_carryOutOrders_r4 ++ (wsX6_carryOutOrders_r5 ++ (wsX6_carryOutOrders_r6 ++ wsX6_carryOutOrders_r7)))))) ++ wsX60 ++ wsX40 ++ wsX00 ++ wsX30 ++ wsX10)
def wsX6_carryOut_r1 : List Cond := [Cond.fieldLink RX6 26 "MoodDrawers" "pad" "LMoodDrawers$Pad;", Cond.fieldLink RX6 33 "MoodDrawers" "history" "LMoodDrawers$History;", Cond.fieldLink RX6 10 "MoodDrawers" "desk" "LMoodDrawers$Desk;", Cond.fieldLink RX6 177 "MoodDrawers$Pad" "length" "I", Cond.methodLink RX6 213 yX4_faultIndex, Cond.instanceMethod yX4_faultIndex, Cond.selects RX4 yX4_faultIndex yX4_faultIndex, Cond.initialized RX4, Cond.code yX4_faultIndex cX4_faultIndex 2 (some .int), Cond.fieldLink RX4 19 "MoodDrawers$Pad" "at" "I", Cond.fieldLink RX4 15 "MoodDrawers$Pad" "length" "I", Cond.methodLink RX4 22 yX4_readOrder, Cond.instanceMethod yX4_readOrder, Cond.selects RX4 yX4_readOrder yX4_readOrder, Cond.code yX4_readOrder cX4_readOrder 1 (some .boolean), Cond.fieldLink RX4 34 "MoodDrawers$Pad" "kind" "I", Cond.fieldLink RX4 37 "MoodDrawers$Pad" "second" "I", Cond.methodLink RX4 30 yX4_next, Cond.instanceMethod yX4_next, Cond.selects RX4 yX4_next yX4_next, Cond.code yX4_next cX4_next 1 (some .char), Cond.fieldLink RX4 9 "MoodDrawers$Pad" "text" "[C", Cond.methodLink RX4 26 yX4_take, Cond.instanceMethod yX4_take]
def wsX6_carryOut_r2 : List Cond := [Cond.selects RX4 yX4_take yX4_take, Cond.code yX4_take cX4_take 2 (some .boolean), Cond.methodLink RX4 40 yX4_readMood, Cond.instanceMethod yX4_readMood, Cond.selects RX4 yX4_readMood yX4_readMood, Cond.code yX4_readMood cX4_readMood 1 (some .boolean), Cond.fieldLink RX4 49 "MoodDrawers$Pad" "mood" "I", Cond.static yX6_isMood, Cond.initialized RX6, Cond.code yX6_isMood cX6_isMood 1 (some .boolean), Cond.methodLink RX4 43 yX4_readFirst, Cond.instanceMethod yX4_readFirst, Cond.selects RX4 yX4_readFirst yX4_readFirst, Cond.code yX4_readFirst cX4_readFirst 1 (some .boolean), Cond.fieldLink RX4 60 "MoodDrawers$Pad" "first" "I", Cond.methodLink RX4 56 yX4_readNumber, Cond.instanceMethod yX4_readNumber, Cond.selects RX4 yX4_readNumber yX4_readNumber, Cond.code yX4_readNumber cX4_readNumber 2 (some .int), Cond.methodLink RX4 63 yX4_isDigit, Cond.static yX4_isDigit, Cond.code yX4_isDigit cX4_isDigit 1 (some .boolean), Cond.methodLink RX4 46 yX4_readSecond, Cond.instanceMethod yX4_readSecond]
def wsX6_carryOut_r3 : List Cond := [Cond.selects RX4 yX4_readSecond yX4_readSecond, Cond.code yX4_readSecond cX4_readSecond 1 (some .boolean), Cond.methodLink RX6 41 yX2_prepare, Cond.instanceMethod yX2_prepare, Cond.selects RX2 yX2_prepare yX2_prepare, Cond.initialized RX2, Cond.code yX2_prepare cX2_prepare 3 none, Cond.fieldLink RX2 11 "MoodDrawers$History" "rows" "[LMoodDrawers$Desk;", Cond.fieldLink RX2 17 "MoodDrawers$History" "kept" "I", Cond.classLink RX2 9 RX0, Cond.instantiable RX0 4, Cond.initialized RX0, Cond.instanceMethod yX0_init, Cond.code yX0_init cX0_init 1 none, Cond.methodLink RX0 3 objectInit, Cond.instanceMethod objectInit, Cond.code objectInit ⟨#[0xb1]⟩ 1 none, Cond.arrayClass .int, Cond.fieldLink RX0 9 "MoodDrawers$Desk" "settings" "[I", Cond.classLink RX0 15 RX1, Cond.instantiable RX1 4, Cond.initialized RX1, Cond.fieldLink RX0 18 "MoodDrawers$Desk" "drawers" "LMoodDrawers$Drawers;", Cond.classLink RX0 22 RX3]
def wsX6_carryOut_r4 : List Cond := [Cond.instantiable RX3 8, Cond.initialized RX3, Cond.fieldLink RX0 25 "MoodDrawers$Desk" "letters" "LMoodDrawers$Letters;", Cond.instanceMethod yX1_init, Cond.code yX1_init cX1_init 1 none, Cond.methodLink RX1 3 objectInit, Cond.fieldLink RX1 9 "MoodDrawers$Drawers" "restDays" "[I", Cond.fieldLink RX1 15 "MoodDrawers$Drawers" "locked" "[I", Cond.fieldLink RX1 18 "MoodDrawers$Drawers" "unlockHour" "[I", Cond.fieldLink RX1 21 "MoodDrawers$Drawers" "lockHour" "[I", Cond.instanceMethod yX3_init, Cond.code yX3_init cX3_init 1 none, Cond.methodLink RX3 3 objectInit, Cond.fieldLink RX3 9 "MoodDrawers$Letters" "mood" "[I", Cond.fieldLink RX3 15 "MoodDrawers$Letters" "heat" "[I", Cond.fieldLink RX3 18 "MoodDrawers$Letters" "writtenOn" "[I", Cond.fieldLink RX3 21 "MoodDrawers$Letters" "answered" "[I", Cond.fieldLink RX3 24 "MoodDrawers$Letters" "how" "[I", Cond.fieldLink RX3 27 "MoodDrawers$Letters" "sentOn" "[I", Cond.fieldLink RX3 30 "MoodDrawers$Letters" "sentHeat" "[I", Cond.methodLink RX2 22 yX0_copyFrom, Cond.instanceMethod yX0_copyFrom, Cond.selects RX0 yX0_copyFrom yX0_copyFrom, Cond.code yX0_copyFrom cX0_copyFrom 2 none]
def wsX6_carryOut_r5 : List Cond := [Cond.fieldLink RX0 33 "MoodDrawers$Desk" "now" "I", Cond.static yX6_copy, Cond.code yX6_copy cX6_copy 2 none, Cond.methodLink RX6 251 Lib.Math.min.name, Cond.static Lib.Math.min.name, Cond.initialized "java/lang/Math", Cond.code Lib.Math.min.name Lib.Math.min.code 2 (some .int), Cond.methodLink RX6 256 arraycopyName, Cond.native arraycopyName, Cond.static arraycopyName, Cond.initialized "java/lang/System", Cond.methodLink RX0 37 yX1_copyFrom, Cond.instanceMethod yX1_copyFrom, Cond.selects RX1 yX1_copyFrom yX1_copyFrom, Cond.code yX1_copyFrom cX1_copyFrom 2 none, Cond.methodLink RX0 41 yX3_copyFrom, Cond.instanceMethod yX3_copyFrom, Cond.selects RX3 yX3_copyFrom yX3_copyFrom, Cond.code yX3_copyFrom cX3_copyFrom 2 none, Cond.fieldLink RX3 33 "MoodDrawers$Letters" "written" "I", Cond.methodLink RX6 216 yX6_carryOutOrders, Cond.instanceMethod yX6_carryOutOrders, Cond.selects RX6 yX6_carryOutOrders yX6_carryOutOrders, Cond.code yX6_carryOutOrders cX6_carryOutOrders 2 (some .int)]
def wsX6_carryOut_r6 : List Cond := [Cond.fieldLink RX6 226 "MoodDrawers$Pad" "at" "I", Cond.methodLink RX6 229 yX4_readOrder, Cond.methodLink RX6 233 yX6_carryOutOrder, Cond.instanceMethod yX6_carryOutOrder, Cond.selects RX6 yX6_carryOutOrder yX6_carryOutOrder, Cond.code yX6_carryOutOrder cX6_carryOutOrder 1 (some .int), Cond.fieldLink RX6 240 "MoodDrawers$Pad" "kind" "I", Cond.fieldLink RX6 243 "MoodDrawers$Pad" "mood" "I", Cond.fieldLink RX6 245 "MoodDrawers$Pad" "first" "I", Cond.fieldLink RX6 248 "MoodDrawers$Pad" "second" "I", Cond.methodLink RX6 53 yX0_writeLetter, Cond.instanceMethod yX0_writeLetter, Cond.selects RX0 yX0_writeLetter yX0_writeLetter, Cond.code yX0_writeLetter cX0_writeLetter 5 (some .int), Cond.fieldLink RX0 54 "MoodDrawers$Letters" "written" "I", Cond.fieldLink RX0 61 "MoodDrawers$Letters" "how" "[I", Cond.fieldLink RX0 64 "MoodDrawers$Letters" "mood" "[I", Cond.fieldLink RX0 67 "MoodDrawers$Letters" "heat" "[I", Cond.fieldLink RX0 70 "MoodDrawers$Letters" "writtenOn" "[I", Cond.fieldLink RX0 77 "MoodDrawers$Letters" "answered" "[I", Cond.fieldLink RX0 80 "MoodDrawers$Letters" "sentOn" "[I", Cond.methodLink RX0 51 yX3_isLetter, Cond.instanceMethod yX3_isLetter, Cond.selects RX3 yX3_isLetter yX3_isLetter]
def wsX6_carryOut_r7 : List Cond := [Cond.code yX3_isLetter cX3_isLetter 2 (some .boolean), Cond.methodLink RX0 57 yX3_ofMood, Cond.instanceMethod yX3_ofMood, Cond.selects RX3 yX3_ofMood yX3_ofMood, Cond.code yX3_ofMood cX3_ofMood 5 (some .int), Cond.methodLink RX0 73 yX0_today, Cond.instanceMethod yX0_today, Cond.selects RX0 yX0_today yX0_today, Cond.code yX0_today cX0_today 1 (some .int), Cond.methodLink RX6 57 yX0_turnKey, Cond.instanceMethod yX0_turnKey, Cond.selects RX0 yX0_turnKey yX0_turnKey, Cond.code yX0_turnKey cX0_turnKey 2 (some .int), Cond.fieldLink RX0 83 "MoodDrawers$Drawers" "locked" "[I", Cond.methodLink RX6 69 yX0_passHours, Cond.instanceMethod yX0_passHours, Cond.selects RX0 yX0_passHours yX0_passHours, Cond.code yX0_passHours cX0_passHours 4 (some .int), Cond.methodLink RX0 105 yX0_hourOfDay, Cond.instanceMethod yX0_hourOfDay, Cond.selects RX0 yX0_hourOfDay yX0_hourOfDay, Cond.code yX0_hourOfDay cX0_hourOfDay 1 (some .int), Cond.methodLink RX0 108 yX1_turnKeysBy, Cond.instanceMethod yX1_turnKeysBy]
def wsX6_carryOut_r8 : List Cond := [Cond.selects RX1 yX1_turnKeysBy yX1_turnKeysBy, Cond.code yX1_turnKeysBy cX1_turnKeysBy 3 none, Cond.methodLink RX0 112 yX0_setThatWouldGo, Cond.instanceMethod yX0_setThatWouldGo, Cond.selects RX0 yX0_setThatWouldGo yX0_setThatWouldGo, Cond.code yX0_setThatWouldGo cX0_setThatWouldGo 5 (some .long), Cond.methodLink RX0 128 yX3_lies, Cond.instanceMethod yX3_lies, Cond.selects RX3 yX3_lies yX3_lies, Cond.code yX3_lies cX3_lies 3 (some .boolean), Cond.methodLink RX0 132 yX0_readyDay, Cond.instanceMethod yX0_readyDay, Cond.selects RX0 yX0_readyDay yX0_readyDay, Cond.code yX0_readyDay cX0_readyDay 6 (some .int), Cond.constant RX0 135 (1000000), Cond.fieldLink RX0 86 "MoodDrawers$Drawers" "restDays" "[I", Cond.methodLink RX0 136 Lib.Math.max.name, Cond.static Lib.Math.max.name, Cond.code Lib.Math.max.name Lib.Math.max.code 2 (some .int), Cond.methodLink RX0 116 yX0_send, Cond.instanceMethod yX0_send, Cond.selects RX0 yX0_send yX0_send, Cond.code yX0_send cX0_send 4 (some .int), Cond.fieldLink RX0 120 "MoodDrawers$Letters" "sentHeat" "[I"]
def wsX6_carryOut_r9 : List Cond := [Cond.methodLink RX0 101 yX0_heatNow, Cond.instanceMethod yX0_heatNow, Cond.selects RX0 yX0_heatNow yX0_heatNow, Cond.code yX0_heatNow cX0_heatNow 3 (some .int), Cond.methodLink RX0 123 yJ13_bitCount_95d88, Cond.static yJ13_bitCount_95d88, Cond.initialized RJ13, Cond.code yJ13_bitCount_95d88 cJ13_bitCount_95d88 2 (some .int), Cond.constantLong RJ13 314 (6148914691236517205), Cond.constantLong RJ13 316 (3689348814741910323), Cond.constantLong RJ13 318 (1085102592571150095), Cond.methodLink RX6 66 yX0_burnLetter, Cond.instanceMethod yX0_burnLetter, Cond.selects RX0 yX0_burnLetter yX0_burnLetter, Cond.code yX0_burnLetter cX0_burnLetter 2 (some .int), Cond.methodLink RX0 98 yX0_isShut, Cond.instanceMethod yX0_isShut, Cond.selects RX0 yX0_isShut yX0_isShut, Cond.code yX0_isShut cX0_isShut 2 (some .boolean), Cond.methodLink RX6 63 yX0_changeHours, Cond.instanceMethod yX0_changeHours, Cond.selects RX0 yX0_changeHours yX0_changeHours, Cond.code yX0_changeHours cX0_changeHours 5 (some .int), Cond.fieldLink RX0 92 "MoodDrawers$Drawers" "unlockHour" "[I"]
def wsX6_carryOut_r10 : List Cond := [Cond.fieldLink RX0 95 "MoodDrawers$Drawers" "lockHour" "[I", Cond.static yX6_isHour, Cond.code yX6_isHour cX6_isHour 1 (some .boolean), Cond.methodLink RX6 236 yX4_take, Cond.methodLink RX6 49 yX6_recorded, Cond.instanceMethod yX6_recorded, Cond.selects RX6 yX6_recorded yX6_recorded, Cond.code yX6_recorded cX6_recorded 2 (some .int), Cond.methodLink RX6 72 yX2_keepPrepared, Cond.instanceMethod yX2_keepPrepared, Cond.selects RX2 yX2_keepPrepared yX2_keepPrepared, Cond.code yX2_keepPrepared cX2_keepPrepared 3 none]
def wsX6_carryOut : List Cond := .code yX6_carryOut cX6_carryOut 2 (some .int) :: ((wsX6_carryOut_r1 ++ (wsX6_carryOut_r2 ++ (wsX6_carryOut_r3 ++ (wsX6_carryOut_r4 ++ (wsX6_carryOut_r5 ++ (wsX6_carryOut_r6 ++ (wsX6_carryOut_r7 ++ (wsX6_carryOut_r8 ++ (wsX6_carryOut_r9 ++ wsX6_carryOut_r10))))))))) ++ wsX60 ++ wsX40 ++ wsX20 ++ wsX00 ++ wsX10 ++ wsX30)
def wsX6_undo_r1 : List Cond := [Cond.fieldLink RX6 33 "MoodDrawers" "history" "LMoodDrawers$History;", Cond.fieldLink RX6 10 "MoodDrawers" "desk" "LMoodDrawers$Desk;", Cond.fieldLink RX6 180 "MoodDrawers$History" "kept" "I", Cond.methodLink RX6 219 yX2_takeBack, Cond.instanceMethod yX2_takeBack, Cond.selects RX2 yX2_takeBack yX2_takeBack, Cond.initialized RX2, Cond.code yX2_takeBack cX2_takeBack 3 (some .boolean), Cond.fieldLink RX2 17 "MoodDrawers$History" "kept" "I", Cond.fieldLink RX2 11 "MoodDrawers$History" "rows" "[LMoodDrawers$Desk;", Cond.methodLink RX2 22 yX0_copyFrom, Cond.instanceMethod yX0_copyFrom, Cond.selects RX0 yX0_copyFrom yX0_copyFrom, Cond.initialized RX0, Cond.code yX0_copyFrom cX0_copyFrom 2 none, Cond.fieldLink RX0 9 "MoodDrawers$Desk" "settings" "[I", Cond.fieldLink RX0 33 "MoodDrawers$Desk" "now" "I", Cond.fieldLink RX0 18 "MoodDrawers$Desk" "drawers" "LMoodDrawers$Drawers;", Cond.fieldLink RX0 25 "MoodDrawers$Desk" "letters" "LMoodDrawers$Letters;", Cond.static yX6_copy, Cond.initialized RX6, Cond.code yX6_copy cX6_copy 2 none, Cond.methodLink RX6 251 Lib.Math.min.name, Cond.static Lib.Math.min.name]
def wsX6_undo_r2 : List Cond := [Cond.initialized "java/lang/Math", Cond.code Lib.Math.min.name Lib.Math.min.code 2 (some .int), Cond.methodLink RX6 256 arraycopyName, Cond.native arraycopyName, Cond.static arraycopyName, Cond.initialized "java/lang/System", Cond.methodLink RX0 37 yX1_copyFrom, Cond.instanceMethod yX1_copyFrom, Cond.selects RX1 yX1_copyFrom yX1_copyFrom, Cond.initialized RX1, Cond.code yX1_copyFrom cX1_copyFrom 2 none, Cond.fieldLink RX1 9 "MoodDrawers$Drawers" "restDays" "[I", Cond.fieldLink RX1 15 "MoodDrawers$Drawers" "locked" "[I", Cond.fieldLink RX1 18 "MoodDrawers$Drawers" "unlockHour" "[I", Cond.fieldLink RX1 21 "MoodDrawers$Drawers" "lockHour" "[I", Cond.methodLink RX0 41 yX3_copyFrom, Cond.instanceMethod yX3_copyFrom, Cond.selects RX3 yX3_copyFrom yX3_copyFrom, Cond.initialized RX3, Cond.code yX3_copyFrom cX3_copyFrom 2 none, Cond.fieldLink RX3 33 "MoodDrawers$Letters" "written" "I", Cond.fieldLink RX3 9 "MoodDrawers$Letters" "mood" "[I", Cond.fieldLink RX3 15 "MoodDrawers$Letters" "heat" "[I", Cond.fieldLink RX3 18 "MoodDrawers$Letters" "writtenOn" "[I"]
def wsX6_undo_r3 : List Cond := [Cond.fieldLink RX3 21 "MoodDrawers$Letters" "answered" "[I", Cond.fieldLink RX3 24 "MoodDrawers$Letters" "how" "[I", Cond.fieldLink RX3 27 "MoodDrawers$Letters" "sentOn" "[I", Cond.fieldLink RX3 30 "MoodDrawers$Letters" "sentHeat" "[I"]
def wsX6_undo : List Cond := .code yX6_undo cX6_undo 1 (some .int) :: ((wsX6_undo_r1 ++ (wsX6_undo_r2 ++ wsX6_undo_r3)) ++ wsX60 ++ wsX20 ++ wsX00 ++ wsX10 ++ wsX30)
def wsX6_save_r1 : List Cond := [Cond.fieldLink RX6 37 "MoodDrawers" "slots" "[LMoodDrawers$Desk;", Cond.classLink RX6 7 RX0, Cond.instantiable RX0 4, Cond.initialized RX0, Cond.fieldLink RX6 10 "MoodDrawers" "desk" "LMoodDrawers$Desk;", Cond.fieldLink RX6 75 "MoodDrawers$Desk" "letters" "LMoodDrawers$Letters;", Cond.fieldLink RX6 161 "MoodDrawers$Letters" "written" "I", Cond.instanceMethod yX0_init, Cond.code yX0_init cX0_init 1 none, Cond.methodLink RX0 3 objectInit, Cond.instanceMethod objectInit, Cond.code objectInit ⟨#[0xb1]⟩ 1 none, Cond.arrayClass .int, Cond.fieldLink RX0 9 "MoodDrawers$Desk" "settings" "[I", Cond.classLink RX0 15 RX1, Cond.instantiable RX1 4, Cond.initialized RX1, Cond.fieldLink RX0 18 "MoodDrawers$Desk" "drawers" "LMoodDrawers$Drawers;", Cond.classLink RX0 22 RX3, Cond.instantiable RX3 8, Cond.initialized RX3, Cond.fieldLink RX0 25 "MoodDrawers$Desk" "letters" "LMoodDrawers$Letters;", Cond.instanceMethod yX1_init, Cond.code yX1_init cX1_init 1 none]
def wsX6_save_r2 : List Cond := [Cond.methodLink RX1 3 objectInit, Cond.fieldLink RX1 9 "MoodDrawers$Drawers" "restDays" "[I", Cond.fieldLink RX1 15 "MoodDrawers$Drawers" "locked" "[I", Cond.fieldLink RX1 18 "MoodDrawers$Drawers" "unlockHour" "[I", Cond.fieldLink RX1 21 "MoodDrawers$Drawers" "lockHour" "[I", Cond.instanceMethod yX3_init, Cond.code yX3_init cX3_init 1 none, Cond.methodLink RX3 3 objectInit, Cond.fieldLink RX3 9 "MoodDrawers$Letters" "mood" "[I", Cond.fieldLink RX3 15 "MoodDrawers$Letters" "heat" "[I", Cond.fieldLink RX3 18 "MoodDrawers$Letters" "writtenOn" "[I", Cond.fieldLink RX3 21 "MoodDrawers$Letters" "answered" "[I", Cond.fieldLink RX3 24 "MoodDrawers$Letters" "how" "[I", Cond.fieldLink RX3 27 "MoodDrawers$Letters" "sentOn" "[I", Cond.fieldLink RX3 30 "MoodDrawers$Letters" "sentHeat" "[I", Cond.methodLink RX6 223 yX0_copyFrom, Cond.instanceMethod yX0_copyFrom, Cond.selects RX0 yX0_copyFrom yX0_copyFrom, Cond.code yX0_copyFrom cX0_copyFrom 2 none, Cond.fieldLink RX0 33 "MoodDrawers$Desk" "now" "I", Cond.static yX6_copy, Cond.initialized RX6, Cond.code yX6_copy cX6_copy 2 none, Cond.methodLink RX6 251 Lib.Math.min.name]
def wsX6_save_r3 : List Cond := [Cond.static Lib.Math.min.name, Cond.initialized "java/lang/Math", Cond.code Lib.Math.min.name Lib.Math.min.code 2 (some .int), Cond.methodLink RX6 256 arraycopyName, Cond.native arraycopyName, Cond.static arraycopyName, Cond.initialized "java/lang/System", Cond.methodLink RX0 37 yX1_copyFrom, Cond.instanceMethod yX1_copyFrom, Cond.selects RX1 yX1_copyFrom yX1_copyFrom, Cond.code yX1_copyFrom cX1_copyFrom 2 none, Cond.methodLink RX0 41 yX3_copyFrom, Cond.instanceMethod yX3_copyFrom, Cond.selects RX3 yX3_copyFrom yX3_copyFrom, Cond.code yX3_copyFrom cX3_copyFrom 2 none, Cond.fieldLink RX3 33 "MoodDrawers$Letters" "written" "I"]
def wsX6_save : List Cond := .code yX6_save cX6_save 3 (some .int) :: ((wsX6_save_r1 ++ (wsX6_save_r2 ++ wsX6_save_r3)) ++ wsX60 ++ wsX00 ++ wsX30 ++ wsX10)
def wsX6_restore_r1 : List Cond := [Cond.fieldLink RX6 37 "MoodDrawers" "slots" "[LMoodDrawers$Desk;", Cond.fieldLink RX6 33 "MoodDrawers" "history" "LMoodDrawers$History;", Cond.fieldLink RX6 10 "MoodDrawers" "desk" "LMoodDrawers$Desk;", Cond.fieldLink RX6 75 "MoodDrawers$Desk" "letters" "LMoodDrawers$Letters;", Cond.fieldLink RX6 161 "MoodDrawers$Letters" "written" "I", Cond.methodLink RX6 41 yX2_prepare, Cond.instanceMethod yX2_prepare, Cond.selects RX2 yX2_prepare yX2_prepare, Cond.initialized RX2, Cond.code yX2_prepare cX2_prepare 3 none, Cond.fieldLink RX2 11 "MoodDrawers$History" "rows" "[LMoodDrawers$Desk;", Cond.fieldLink RX2 17 "MoodDrawers$History" "kept" "I", Cond.classLink RX2 9 RX0, Cond.instantiable RX0 4, Cond.initialized RX0, Cond.instanceMethod yX0_init, Cond.code yX0_init cX0_init 1 none, Cond.methodLink RX0 3 objectInit, Cond.instanceMethod objectInit, Cond.code objectInit ⟨#[0xb1]⟩ 1 none, Cond.arrayClass .int, Cond.fieldLink RX0 9 "MoodDrawers$Desk" "settings" "[I", Cond.classLink RX0 15 RX1, Cond.instantiable RX1 4]
def wsX6_restore_r2 : List Cond := [Cond.initialized RX1, Cond.fieldLink RX0 18 "MoodDrawers$Desk" "drawers" "LMoodDrawers$Drawers;", Cond.classLink RX0 22 RX3, Cond.instantiable RX3 8, Cond.initialized RX3, Cond.fieldLink RX0 25 "MoodDrawers$Desk" "letters" "LMoodDrawers$Letters;", Cond.instanceMethod yX1_init, Cond.code yX1_init cX1_init 1 none, Cond.methodLink RX1 3 objectInit, Cond.fieldLink RX1 9 "MoodDrawers$Drawers" "restDays" "[I", Cond.fieldLink RX1 15 "MoodDrawers$Drawers" "locked" "[I", Cond.fieldLink RX1 18 "MoodDrawers$Drawers" "unlockHour" "[I", Cond.fieldLink RX1 21 "MoodDrawers$Drawers" "lockHour" "[I", Cond.instanceMethod yX3_init, Cond.code yX3_init cX3_init 1 none, Cond.methodLink RX3 3 objectInit, Cond.fieldLink RX3 9 "MoodDrawers$Letters" "mood" "[I", Cond.fieldLink RX3 15 "MoodDrawers$Letters" "heat" "[I", Cond.fieldLink RX3 18 "MoodDrawers$Letters" "writtenOn" "[I", Cond.fieldLink RX3 21 "MoodDrawers$Letters" "answered" "[I", Cond.fieldLink RX3 24 "MoodDrawers$Letters" "how" "[I", Cond.fieldLink RX3 27 "MoodDrawers$Letters" "sentOn" "[I", Cond.fieldLink RX3 30 "MoodDrawers$Letters" "sentHeat" "[I", Cond.methodLink RX2 22 yX0_copyFrom]
def wsX6_restore_r3 : List Cond := [Cond.instanceMethod yX0_copyFrom, Cond.selects RX0 yX0_copyFrom yX0_copyFrom, Cond.code yX0_copyFrom cX0_copyFrom 2 none, Cond.fieldLink RX0 33 "MoodDrawers$Desk" "now" "I", Cond.static yX6_copy, Cond.initialized RX6, Cond.code yX6_copy cX6_copy 2 none, Cond.methodLink RX6 251 Lib.Math.min.name, Cond.static Lib.Math.min.name, Cond.initialized "java/lang/Math", Cond.code Lib.Math.min.name Lib.Math.min.code 2 (some .int), Cond.methodLink RX6 256 arraycopyName, Cond.native arraycopyName, Cond.static arraycopyName, Cond.initialized "java/lang/System", Cond.methodLink RX0 37 yX1_copyFrom, Cond.instanceMethod yX1_copyFrom, Cond.selects RX1 yX1_copyFrom yX1_copyFrom, Cond.code yX1_copyFrom cX1_copyFrom 2 none, Cond.methodLink RX0 41 yX3_copyFrom, Cond.instanceMethod yX3_copyFrom, Cond.selects RX3 yX3_copyFrom yX3_copyFrom, Cond.code yX3_copyFrom cX3_copyFrom 2 none, Cond.fieldLink RX3 33 "MoodDrawers$Letters" "written" "I"]
def wsX6_restore_r4 : List Cond := [Cond.methodLink RX6 223 yX0_copyFrom, Cond.methodLink RX6 49 yX6_recorded, Cond.instanceMethod yX6_recorded, Cond.selects RX6 yX6_recorded yX6_recorded, Cond.code yX6_recorded cX6_recorded 2 (some .int), Cond.methodLink RX6 72 yX2_keepPrepared, Cond.instanceMethod yX2_keepPrepared, Cond.selects RX2 yX2_keepPrepared yX2_keepPrepared, Cond.code yX2_keepPrepared cX2_keepPrepared 3 none]
def wsX6_restore : List Cond := .code yX6_restore cX6_restore 3 (some .int) :: ((wsX6_restore_r1 ++ (wsX6_restore_r2 ++ (wsX6_restore_r3 ++ wsX6_restore_r4))) ++ wsX60 ++ wsX00 ++ wsX30 ++ wsX20 ++ wsX10)
def wsX7_ofD : List Cond := .code yX7_ofD cX7_ofD 2 (some .int) :: ([])
def wsX7_init : List Cond := .code yX7_init cX7_init 2 none :: ([.methodLink RX7 1 objectInit, .instanceMethod objectInit, .code objectInit ⟨#[0xb1]⟩ 1 none, .arrayClass .int, .fieldLink RX7 7 "MoodDrawersModel" "s" "[I", .fieldLink RX7 13 "MoodDrawersModel" "aside" "[I", .fieldLink RX7 16 "MoodDrawersModel" "before" "[I", .fieldLink RX7 19 "MoodDrawersModel" "slots" "[I", .arrayClass .boolean, .fieldLink RX7 22 "MoodDrawersModel" "isSaved" "[Z", .fieldLink RX7 26 "MoodDrawersModel" "pad" "[I", .fieldLink RX7 29 "MoodDrawersModel" "regrets" "[I", .fieldLink RX7 32 "MoodDrawersModel" "greatest" "[I", .methodLink RX7 35 yX7_ofD, .static yX7_ofD, .initialized RX7, .code yX7_ofD cX7_ofD 2 (some .int)] ++ wsX70)
def wsX7_in : List Cond := .code yX7_in cX7_in 3 (some .boolean) :: ([])
def wsX7_ofL : List Cond := .code yX7_ofL cX7_ofL 2 (some .int) :: ([])
def wsX7_isMood : List Cond := .code yX7_isMood cX7_isMood 1 (some .boolean) :: ([.methodLink RX7 39 yX7_in, .static yX7_in, .initialized RX7, .code yX7_in cX7_in 3 (some .boolean)])
def wsX7_isLetter : List Cond := .code yX7_isLetter cX7_isLetter 2 (some .boolean) :: ([.fieldLink RX7 7 "MoodDrawersModel" "s" "[I", .methodLink RX7 39 yX7_in, .static yX7_in, .initialized RX7, .code yX7_in cX7_in 3 (some .boolean)] ++ wsX70)
def wsX7_know : List Cond := .code yX7_know cX7_know 2 none :: ([.fieldLink RX7 43 "MoodDrawersModel" "known" "I", .fieldLink RX7 16 "MoodDrawersModel" "before" "[I", .fieldLink RX7 7 "MoodDrawersModel" "s" "[I"] ++ wsX70)
def wsX7_putAside : List Cond := .code yX7_putAside cX7_putAside 2 none :: ([.fieldLink RX7 13 "MoodDrawersModel" "aside" "[I", .fieldLink RX7 7 "MoodDrawersModel" "s" "[I"] ++ wsX70)
def wsX7_putBack : List Cond := .code yX7_putBack cX7_putBack 2 none :: ([.fieldLink RX7 7 "MoodDrawersModel" "s" "[I", .fieldLink RX7 13 "MoodDrawersModel" "aside" "[I"] ++ wsX70)
def wsX7_heat : List Cond := .code yX7_heat cX7_heat 3 (some .int) :: ([.fieldLink RX7 7 "MoodDrawersModel" "s" "[I", .methodLink RX7 47 yX7_ofL, .static yX7_ofL, .initialized RX7, .code yX7_ofL cX7_ofL 2 (some .int)] ++ wsX70)
def wsX7_many : List Cond := .code yX7_many cX7_many 5 (some .int) :: ([.fieldLink RX7 7 "MoodDrawersModel" "s" "[I", .methodLink RX7 47 yX7_ofL, .static yX7_ofL, .initialized RX7, .code yX7_ofL cX7_ofL 2 (some .int)] ++ wsX70)
def wsX7_wouldGo : List Cond := .code yX7_wouldGo cX7_wouldGo 4 (some .boolean) :: ([.fieldLink RX7 7 "MoodDrawersModel" "s" "[I", .methodLink RX7 47 yX7_ofL, .static yX7_ofL, .initialized RX7, .code yX7_ofL cX7_ofL 2 (some .int), .methodLink RX7 35 yX7_ofD, .static yX7_ofD, .code yX7_ofD cX7_ofD 2 (some .int), .methodLink RX7 50 yX7_heat, .instanceMethod yX7_heat, .selects RX7 yX7_heat yX7_heat, .code yX7_heat cX7_heat 3 (some .int)] ++ wsX70)
def wsX7_hour : List Cond := .code yX7_hour cX7_hour 2 none :: ([.fieldLink RX7 7 "MoodDrawersModel" "s" "[I", .methodLink RX7 35 yX7_ofD, .static yX7_ofD, .initialized RX7, .code yX7_ofD cX7_ofD 2 (some .int), .methodLink RX7 54 yX7_wouldGo, .instanceMethod yX7_wouldGo, .selects RX7 yX7_wouldGo yX7_wouldGo, .code yX7_wouldGo cX7_wouldGo 4 (some .boolean), .methodLink RX7 47 yX7_ofL, .static yX7_ofL, .code yX7_ofL cX7_ofL 2 (some .int), .methodLink RX7 50 yX7_heat, .instanceMethod yX7_heat, .selects RX7 yX7_heat yX7_heat, .code yX7_heat cX7_heat 3 (some .int)] ++ wsX70)
def wsX7_findRegrets : List Cond := .code yX7_findRegrets cX7_findRegrets 3 none :: ([.fieldLink RX7 32 "MoodDrawersModel" "greatest" "[I", .fieldLink RX7 29 "MoodDrawersModel" "regrets" "[I", .fieldLink RX7 7 "MoodDrawersModel" "s" "[I", .methodLink RX7 47 yX7_ofL, .static yX7_ofL, .initialized RX7, .code yX7_ofL cX7_ofL 2 (some .int), .methodLink RX7 50 yX7_heat, .instanceMethod yX7_heat, .selects RX7 yX7_heat yX7_heat, .code yX7_heat cX7_heat 3 (some .int)] ++ wsX70)
def wsX7_writeFault : List Cond := .code yX7_writeFault cX7_writeFault 4 (some .int) :: ([.fieldLink RX7 7 "MoodDrawersModel" "s" "[I", .methodLink RX7 58 yX7_isMood, .static yX7_isMood, .initialized RX7, .code yX7_isMood cX7_isMood 1 (some .boolean), .methodLink RX7 39 yX7_in, .static yX7_in, .code yX7_in cX7_in 3 (some .boolean), .methodLink RX7 61 yX7_isLetter, .instanceMethod yX7_isLetter, .selects RX7 yX7_isLetter yX7_isLetter, .code yX7_isLetter cX7_isLetter 2 (some .boolean), .methodLink RX7 64 yX7_many, .instanceMethod yX7_many, .selects RX7 yX7_many yX7_many, .code yX7_many cX7_many 5 (some .int), .methodLink RX7 47 yX7_ofL, .static yX7_ofL, .code yX7_ofL cX7_ofL 2 (some .int)] ++ wsX70)
def wsX7_writes : List Cond := .code yX7_writes cX7_writes 5 (some .int) :: ([.fieldLink RX7 7 "MoodDrawersModel" "s" "[I", .methodLink RX7 47 yX7_ofL, .static yX7_ofL, .initialized RX7, .code yX7_ofL cX7_ofL 2 (some .int)] ++ wsX70)
def wsX7_turns : List Cond := .code yX7_turns cX7_turns 2 (some .int) :: ([.fieldLink RX7 7 "MoodDrawersModel" "s" "[I", .methodLink RX7 35 yX7_ofD, .static yX7_ofD, .initialized RX7, .code yX7_ofD cX7_ofD 2 (some .int)] ++ wsX70)
def wsX7_hoursFault : List Cond := .code yX7_hoursFault cX7_hoursFault 4 (some .int) :: ([.methodLink RX7 58 yX7_isMood, .static yX7_isMood, .initialized RX7, .code yX7_isMood cX7_isMood 1 (some .boolean), .methodLink RX7 39 yX7_in, .static yX7_in, .code yX7_in cX7_in 3 (some .boolean)])
def wsX7_putsHours : List Cond := .code yX7_putsHours cX7_putsHours 5 (some .int) :: ([.fieldLink RX7 7 "MoodDrawersModel" "s" "[I", .methodLink RX7 35 yX7_ofD, .static yX7_ofD, .initialized RX7, .code yX7_ofD cX7_ofD 2 (some .int)] ++ wsX70)
def wsX7_burnFault : List Cond := .code yX7_burnFault cX7_burnFault 2 (some .int) :: ([.fieldLink RX7 7 "MoodDrawersModel" "s" "[I", .methodLink RX7 61 yX7_isLetter, .instanceMethod yX7_isLetter, .selects RX7 yX7_isLetter yX7_isLetter, .initialized RX7, .code yX7_isLetter cX7_isLetter 2 (some .boolean), .methodLink RX7 39 yX7_in, .static yX7_in, .code yX7_in cX7_in 3 (some .boolean), .methodLink RX7 47 yX7_ofL, .static yX7_ofL, .code yX7_ofL cX7_ofL 2 (some .int), .methodLink RX7 35 yX7_ofD, .static yX7_ofD, .code yX7_ofD cX7_ofD 2 (some .int)] ++ wsX70)
def wsX7_burns : List Cond := .code yX7_burns cX7_burns 2 (some .int) :: ([.fieldLink RX7 7 "MoodDrawersModel" "s" "[I", .methodLink RX7 47 yX7_ofL, .static yX7_ofL, .initialized RX7, .code yX7_ofL cX7_ofL 2 (some .int), .methodLink RX7 50 yX7_heat, .instanceMethod yX7_heat, .selects RX7 yX7_heat yX7_heat, .code yX7_heat cX7_heat 3 (some .int)] ++ wsX70)
def wsX7_passFault : List Cond := .code yX7_passFault cX7_passFault 2 (some .int) :: ([.fieldLink RX7 7 "MoodDrawersModel" "s" "[I", .methodLink RX7 39 yX7_in, .static yX7_in, .initialized RX7, .code yX7_in cX7_in 3 (some .boolean)] ++ wsX70)
def wsX7_passes : List Cond := .code yX7_passes cX7_passes 4 (some .int) :: ([.methodLink RX7 64 yX7_many, .instanceMethod yX7_many, .selects RX7 yX7_many yX7_many, .initialized RX7, .code yX7_many cX7_many 5 (some .int), .fieldLink RX7 7 "MoodDrawersModel" "s" "[I", .methodLink RX7 47 yX7_ofL, .static yX7_ofL, .code yX7_ofL cX7_ofL 2 (some .int), .methodLink RX7 67 yX7_hour, .instanceMethod yX7_hour, .selects RX7 yX7_hour yX7_hour, .code yX7_hour cX7_hour 2 none, .methodLink RX7 35 yX7_ofD, .static yX7_ofD, .code yX7_ofD cX7_ofD 2 (some .int), .methodLink RX7 54 yX7_wouldGo, .instanceMethod yX7_wouldGo, .selects RX7 yX7_wouldGo yX7_wouldGo, .code yX7_wouldGo cX7_wouldGo 4 (some .boolean), .methodLink RX7 50 yX7_heat, .instanceMethod yX7_heat, .selects RX7 yX7_heat yX7_heat, .code yX7_heat cX7_heat 3 (some .int)] ++ wsX70)
def wsX7_set : List Cond := .code yX7_set cX7_set 5 (some .int) :: ([.fieldLink RX7 7 "MoodDrawersModel" "s" "[I", .methodLink RX7 39 yX7_in, .static yX7_in, .initialized RX7, .code yX7_in cX7_in 3 (some .boolean), .methodLink RX7 70 yX7_know, .instanceMethod yX7_know, .selects RX7 yX7_know yX7_know, .code yX7_know cX7_know 2 none, .fieldLink RX7 43 "MoodDrawersModel" "known" "I", .fieldLink RX7 16 "MoodDrawersModel" "before" "[I"] ++ wsX70)
def wsX7_write_r1 : List Cond := [Cond.methodLink RX7 73 yX7_writeFault, Cond.instanceMethod yX7_writeFault, Cond.selects RX7 yX7_writeFault yX7_writeFault, Cond.initialized RX7, Cond.code yX7_writeFault cX7_writeFault 4 (some .int), Cond.fieldLink RX7 7 "MoodDrawersModel" "s" "[I", Cond.methodLink RX7 58 yX7_isMood, Cond.static yX7_isMood, Cond.code yX7_isMood cX7_isMood 1 (some .boolean), Cond.methodLink RX7 39 yX7_in, Cond.static yX7_in, Cond.code yX7_in cX7_in 3 (some .boolean), Cond.methodLink RX7 61 yX7_isLetter, Cond.instanceMethod yX7_isLetter, Cond.selects RX7 yX7_isLetter yX7_isLetter, Cond.code yX7_isLetter cX7_isLetter 2 (some .boolean), Cond.methodLink RX7 64 yX7_many, Cond.instanceMethod yX7_many, Cond.selects RX7 yX7_many yX7_many, Cond.code yX7_many cX7_many 5 (some .int), Cond.methodLink RX7 47 yX7_ofL, Cond.static yX7_ofL, Cond.code yX7_ofL cX7_ofL 2 (some .int), Cond.methodLink RX7 70 yX7_know]
def wsX7_write_r2 : List Cond := [Cond.instanceMethod yX7_know, Cond.selects RX7 yX7_know yX7_know, Cond.code yX7_know cX7_know 2 none, Cond.fieldLink RX7 43 "MoodDrawersModel" "known" "I", Cond.fieldLink RX7 16 "MoodDrawersModel" "before" "[I", Cond.methodLink RX7 77 yX7_writes, Cond.instanceMethod yX7_writes, Cond.selects RX7 yX7_writes yX7_writes, Cond.code yX7_writes cX7_writes 5 (some .int)]
def wsX7_write : List Cond := .code yX7_write cX7_write 5 (some .int) :: ((wsX7_write_r1 ++ wsX7_write_r2) ++ wsX70)
def wsX7_turn : List Cond := .code yX7_turn cX7_turn 2 (some .int) :: ([.methodLink RX7 58 yX7_isMood, .static yX7_isMood, .initialized RX7, .code yX7_isMood cX7_isMood 1 (some .boolean), .methodLink RX7 39 yX7_in, .static yX7_in, .code yX7_in cX7_in 3 (some .boolean), .methodLink RX7 70 yX7_know, .instanceMethod yX7_know, .selects RX7 yX7_know yX7_know, .code yX7_know cX7_know 2 none, .fieldLink RX7 43 "MoodDrawersModel" "known" "I", .fieldLink RX7 16 "MoodDrawersModel" "before" "[I", .fieldLink RX7 7 "MoodDrawersModel" "s" "[I", .methodLink RX7 80 yX7_turns, .instanceMethod yX7_turns, .selects RX7 yX7_turns yX7_turns, .code yX7_turns cX7_turns 2 (some .int), .methodLink RX7 35 yX7_ofD, .static yX7_ofD, .code yX7_ofD cX7_ofD 2 (some .int)] ++ wsX70)
def wsX7_rest : List Cond := .code yX7_rest cX7_rest 4 (some .int) :: ([.fieldLink RX7 7 "MoodDrawersModel" "s" "[I", .methodLink RX7 58 yX7_isMood, .static yX7_isMood, .initialized RX7, .code yX7_isMood cX7_isMood 1 (some .boolean), .methodLink RX7 39 yX7_in, .static yX7_in, .code yX7_in cX7_in 3 (some .boolean), .methodLink RX7 70 yX7_know, .instanceMethod yX7_know, .selects RX7 yX7_know yX7_know, .code yX7_know cX7_know 2 none, .fieldLink RX7 43 "MoodDrawersModel" "known" "I", .fieldLink RX7 16 "MoodDrawersModel" "before" "[I", .methodLink RX7 35 yX7_ofD, .static yX7_ofD, .code yX7_ofD cX7_ofD 2 (some .int)] ++ wsX70)
def wsX7_hours_r1 : List Cond := [Cond.methodLink RX7 83 yX7_hoursFault, Cond.instanceMethod yX7_hoursFault, Cond.selects RX7 yX7_hoursFault yX7_hoursFault, Cond.initialized RX7, Cond.code yX7_hoursFault cX7_hoursFault 4 (some .int), Cond.methodLink RX7 58 yX7_isMood, Cond.static yX7_isMood, Cond.code yX7_isMood cX7_isMood 1 (some .boolean), Cond.methodLink RX7 39 yX7_in, Cond.static yX7_in, Cond.code yX7_in cX7_in 3 (some .boolean), Cond.methodLink RX7 70 yX7_know, Cond.instanceMethod yX7_know, Cond.selects RX7 yX7_know yX7_know, Cond.code yX7_know cX7_know 2 none, Cond.fieldLink RX7 43 "MoodDrawersModel" "known" "I", Cond.fieldLink RX7 16 "MoodDrawersModel" "before" "[I", Cond.fieldLink RX7 7 "MoodDrawersModel" "s" "[I", Cond.methodLink RX7 86 yX7_putsHours, Cond.instanceMethod yX7_putsHours, Cond.selects RX7 yX7_putsHours yX7_putsHours, Cond.code yX7_putsHours cX7_putsHours 5 (some .int), Cond.methodLink RX7 35 yX7_ofD, Cond.static yX7_ofD]
def wsX7_hours_r2 : List Cond := [Cond.code yX7_ofD cX7_ofD 2 (some .int)]
def wsX7_hours : List Cond := .code yX7_hours cX7_hours 5 (some .int) :: ((wsX7_hours_r1 ++ wsX7_hours_r2) ++ wsX70)
def wsX7_burn_r1 : List Cond := [Cond.methodLink RX7 89 yX7_burnFault, Cond.instanceMethod yX7_burnFault, Cond.selects RX7 yX7_burnFault yX7_burnFault, Cond.initialized RX7, Cond.code yX7_burnFault cX7_burnFault 2 (some .int), Cond.fieldLink RX7 7 "MoodDrawersModel" "s" "[I", Cond.methodLink RX7 61 yX7_isLetter, Cond.instanceMethod yX7_isLetter, Cond.selects RX7 yX7_isLetter yX7_isLetter, Cond.code yX7_isLetter cX7_isLetter 2 (some .boolean), Cond.methodLink RX7 39 yX7_in, Cond.static yX7_in, Cond.code yX7_in cX7_in 3 (some .boolean), Cond.methodLink RX7 47 yX7_ofL, Cond.static yX7_ofL, Cond.code yX7_ofL cX7_ofL 2 (some .int), Cond.methodLink RX7 35 yX7_ofD, Cond.static yX7_ofD, Cond.code yX7_ofD cX7_ofD 2 (some .int), Cond.methodLink RX7 70 yX7_know, Cond.instanceMethod yX7_know, Cond.selects RX7 yX7_know yX7_know, Cond.code yX7_know cX7_know 2 none, Cond.fieldLink RX7 43 "MoodDrawersModel" "known" "I"]
def wsX7_burn_r2 : List Cond := [Cond.fieldLink RX7 16 "MoodDrawersModel" "before" "[I", Cond.methodLink RX7 92 yX7_burns, Cond.instanceMethod yX7_burns, Cond.selects RX7 yX7_burns yX7_burns, Cond.code yX7_burns cX7_burns 2 (some .int), Cond.methodLink RX7 50 yX7_heat, Cond.instanceMethod yX7_heat, Cond.selects RX7 yX7_heat yX7_heat, Cond.code yX7_heat cX7_heat 3 (some .int)]
def wsX7_burn : List Cond := .code yX7_burn cX7_burn 3 (some .int) :: ((wsX7_burn_r1 ++ wsX7_burn_r2) ++ wsX70)
def wsX7_pass_r1 : List Cond := [Cond.methodLink RX7 95 yX7_passFault, Cond.instanceMethod yX7_passFault, Cond.selects RX7 yX7_passFault yX7_passFault, Cond.initialized RX7, Cond.code yX7_passFault cX7_passFault 2 (some .int), Cond.fieldLink RX7 7 "MoodDrawersModel" "s" "[I", Cond.methodLink RX7 39 yX7_in, Cond.static yX7_in, Cond.code yX7_in cX7_in 3 (some .boolean), Cond.methodLink RX7 70 yX7_know, Cond.instanceMethod yX7_know, Cond.selects RX7 yX7_know yX7_know, Cond.code yX7_know cX7_know 2 none, Cond.fieldLink RX7 43 "MoodDrawersModel" "known" "I", Cond.fieldLink RX7 16 "MoodDrawersModel" "before" "[I", Cond.methodLink RX7 98 yX7_passes, Cond.instanceMethod yX7_passes, Cond.selects RX7 yX7_passes yX7_passes, Cond.code yX7_passes cX7_passes 4 (some .int), Cond.methodLink RX7 64 yX7_many, Cond.instanceMethod yX7_many, Cond.selects RX7 yX7_many yX7_many, Cond.code yX7_many cX7_many 5 (some .int), Cond.methodLink RX7 47 yX7_ofL]
def wsX7_pass_r2 : List Cond := [Cond.static yX7_ofL, Cond.code yX7_ofL cX7_ofL 2 (some .int), Cond.methodLink RX7 67 yX7_hour, Cond.instanceMethod yX7_hour, Cond.selects RX7 yX7_hour yX7_hour, Cond.code yX7_hour cX7_hour 2 none, Cond.methodLink RX7 35 yX7_ofD, Cond.static yX7_ofD, Cond.code yX7_ofD cX7_ofD 2 (some .int), Cond.methodLink RX7 54 yX7_wouldGo, Cond.instanceMethod yX7_wouldGo, Cond.selects RX7 yX7_wouldGo yX7_wouldGo, Cond.code yX7_wouldGo cX7_wouldGo 4 (some .boolean), Cond.methodLink RX7 50 yX7_heat, Cond.instanceMethod yX7_heat, Cond.selects RX7 yX7_heat yX7_heat, Cond.code yX7_heat cX7_heat 3 (some .int)]
def wsX7_pass : List Cond := .code yX7_pass cX7_pass 3 (some .int) :: ((wsX7_pass_r1 ++ wsX7_pass_r2) ++ wsX70)
def wsX7_answering : List Cond := .code yX7_answering cX7_answering 4 (some .int) :: ([.fieldLink RX7 7 "MoodDrawersModel" "s" "[I", .methodLink RX7 47 yX7_ofL, .static yX7_ofL, .initialized RX7, .code yX7_ofL cX7_ofL 2 (some .int)] ++ wsX70)
def wsX7_depth : List Cond := .code yX7_depth cX7_depth 4 (some .int) :: ([.fieldLink RX7 7 "MoodDrawersModel" "s" "[I", .methodLink RX7 47 yX7_ofL, .static yX7_ofL, .initialized RX7, .code yX7_ofL cX7_ofL 2 (some .int)] ++ wsX70)
def wsX7_ofLetter_r1 : List Cond := [Cond.fieldLink RX7 7 "MoodDrawersModel" "s" "[I", Cond.fieldLink RX7 29 "MoodDrawersModel" "regrets" "[I", Cond.methodLink RX7 61 yX7_isLetter, Cond.instanceMethod yX7_isLetter, Cond.selects RX7 yX7_isLetter yX7_isLetter, Cond.initialized RX7, Cond.code yX7_isLetter cX7_isLetter 2 (some .boolean), Cond.methodLink RX7 39 yX7_in, Cond.static yX7_in, Cond.code yX7_in cX7_in 3 (some .boolean), Cond.methodLink RX7 47 yX7_ofL, Cond.static yX7_ofL, Cond.code yX7_ofL cX7_ofL 2 (some .int), Cond.methodLink RX7 50 yX7_heat, Cond.instanceMethod yX7_heat, Cond.selects RX7 yX7_heat yX7_heat, Cond.code yX7_heat cX7_heat 3 (some .int), Cond.methodLink RX7 101 yX7_findRegrets, Cond.instanceMethod yX7_findRegrets, Cond.selects RX7 yX7_findRegrets yX7_findRegrets, Cond.code yX7_findRegrets cX7_findRegrets 3 none, Cond.fieldLink RX7 32 "MoodDrawersModel" "greatest" "[I", Cond.methodLink RX7 104 yX7_answering, Cond.instanceMethod yX7_answering]
def wsX7_ofLetter_r2 : List Cond := [Cond.selects RX7 yX7_answering yX7_answering, Cond.code yX7_answering cX7_answering 4 (some .int), Cond.methodLink RX7 107 yX7_depth, Cond.instanceMethod yX7_depth, Cond.selects RX7 yX7_depth yX7_depth, Cond.code yX7_depth cX7_depth 4 (some .int)]
def wsX7_ofLetter : List Cond := .code yX7_ofLetter cX7_ofLetter 3 (some .int) :: ((wsX7_ofLetter_r1 ++ wsX7_ofLetter_r2) ++ wsX70)
def wsX7_heatIn : List Cond := .code yX7_heatIn cX7_heatIn 4 (some .int) :: ([.fieldLink RX7 7 "MoodDrawersModel" "s" "[I", .methodLink RX7 47 yX7_ofL, .static yX7_ofL, .initialized RX7, .code yX7_ofL cX7_ofL 2 (some .int), .methodLink RX7 50 yX7_heat, .instanceMethod yX7_heat, .selects RX7 yX7_heat yX7_heat, .code yX7_heat cX7_heat 3 (some .int)] ++ wsX70)
def wsX7_ofDrawer_r1 : List Cond := [Cond.fieldLink RX7 7 "MoodDrawersModel" "s" "[I", Cond.methodLink RX7 58 yX7_isMood, Cond.static yX7_isMood, Cond.initialized RX7, Cond.code yX7_isMood cX7_isMood 1 (some .boolean), Cond.methodLink RX7 39 yX7_in, Cond.static yX7_in, Cond.code yX7_in cX7_in 3 (some .boolean), Cond.methodLink RX7 64 yX7_many, Cond.instanceMethod yX7_many, Cond.selects RX7 yX7_many yX7_many, Cond.code yX7_many cX7_many 5 (some .int), Cond.methodLink RX7 47 yX7_ofL, Cond.static yX7_ofL, Cond.code yX7_ofL cX7_ofL 2 (some .int), Cond.methodLink RX7 35 yX7_ofD, Cond.static yX7_ofD, Cond.code yX7_ofD cX7_ofD 2 (some .int), Cond.methodLink RX7 110 yX7_heatIn, Cond.instanceMethod yX7_heatIn, Cond.selects RX7 yX7_heatIn yX7_heatIn, Cond.code yX7_heatIn cX7_heatIn 4 (some .int), Cond.methodLink RX7 50 yX7_heat, Cond.instanceMethod yX7_heat]
def wsX7_ofDrawer_r2 : List Cond := [Cond.selects RX7 yX7_heat yX7_heat, Cond.code yX7_heat cX7_heat 3 (some .int)]
def wsX7_ofDrawer : List Cond := .code yX7_ofDrawer cX7_ofDrawer 3 (some .int) :: ((wsX7_ofDrawer_r1 ++ wsX7_ofDrawer_r2) ++ wsX70)
def wsX7_letters : List Cond := .code yX7_letters cX7_letters 5 (some .long) :: ([.constantLong RX7 113 (-2), .fieldLink RX7 7 "MoodDrawersModel" "s" "[I", .methodLink RX7 39 yX7_in, .static yX7_in, .initialized RX7, .code yX7_in cX7_in 3 (some .boolean), .methodLink RX7 54 yX7_wouldGo, .instanceMethod yX7_wouldGo, .selects RX7 yX7_wouldGo yX7_wouldGo, .code yX7_wouldGo cX7_wouldGo 4 (some .boolean), .methodLink RX7 47 yX7_ofL, .static yX7_ofL, .code yX7_ofL cX7_ofL 2 (some .int), .methodLink RX7 35 yX7_ofD, .static yX7_ofD, .code yX7_ofD cX7_ofD 2 (some .int), .methodLink RX7 50 yX7_heat, .instanceMethod yX7_heat, .selects RX7 yX7_heat yX7_heat, .code yX7_heat cX7_heat 3 (some .int)] ++ wsX70)
def wsX7_locked : List Cond := .code yX7_locked cX7_locked 3 (some .int) :: ([.fieldLink RX7 7 "MoodDrawersModel" "s" "[I", .methodLink RX7 35 yX7_ofD, .static yX7_ofD, .initialized RX7, .code yX7_ofD cX7_ofD 2 (some .int)] ++ wsX70)
def wsX7_count : List Cond := .code yX7_count cX7_count 2 (some .int) :: ([.fieldLink RX7 7 "MoodDrawersModel" "s" "[I", .fieldLink RX7 119 "MoodDrawersModel" "length" "I", .fieldLink RX7 43 "MoodDrawersModel" "known" "I", .methodLink RX7 64 yX7_many, .instanceMethod yX7_many, .selects RX7 yX7_many yX7_many, .initialized RX7, .code yX7_many cX7_many 5 (some .int), .methodLink RX7 47 yX7_ofL, .static yX7_ofL, .code yX7_ofL cX7_ofL 2 (some .int), .methodLink RX7 115 yX7_locked, .instanceMethod yX7_locked, .selects RX7 yX7_locked yX7_locked, .code yX7_locked cX7_locked 3 (some .int), .methodLink RX7 35 yX7_ofD, .static yX7_ofD, .code yX7_ofD cX7_ofD 2 (some .int)] ++ wsX70)
def wsX7_bitsOf : List Cond := .code yX7_bitsOf cX7_bitsOf 3 (some .int) :: ([.constant RX7 122 (8388608), .constantFloat RX7 123 (1258291200)])
def wsX7_bitsOfDouble : List Cond := .code yX7_bitsOfDouble cX7_bitsOfDouble 6 (some .long) :: ([.constantLong RX7 124 (1023), .constantDouble RX7 126 (4611686018427387904), .constantDouble RX7 128 (4602678819172646912), .constantLong RX7 130 (4503599627370496), .constantDouble RX7 132 (4841369599423283200)])
def wsX7_meanHeat : List Cond := .code yX7_meanHeat cX7_meanHeat 3 (some .long) :: ([.fieldLink RX7 7 "MoodDrawersModel" "s" "[I", .methodLink RX7 47 yX7_ofL, .static yX7_ofL, .initialized RX7, .code yX7_ofL cX7_ofL 2 (some .int), .methodLink RX7 50 yX7_heat, .instanceMethod yX7_heat, .selects RX7 yX7_heat yX7_heat, .code yX7_heat cX7_heat 3 (some .int), .methodLink RX7 64 yX7_many, .instanceMethod yX7_many, .selects RX7 yX7_many yX7_many, .code yX7_many cX7_many 5 (some .int), .methodLink RX7 134 yX7_bitsOfDouble, .static yX7_bitsOfDouble, .code yX7_bitsOfDouble cX7_bitsOfDouble 6 (some .long), .constantLong RX7 124 (1023), .constantDouble RX7 126 (4611686018427387904), .constantDouble RX7 128 (4602678819172646912), .constantLong RX7 130 (4503599627370496), .constantDouble RX7 132 (4841369599423283200)] ++ wsX70)
def wsX7_share : List Cond := .code yX7_share cX7_share 1 (some .int) :: ([.fieldLink RX7 7 "MoodDrawersModel" "s" "[I", .methodLink RX7 64 yX7_many, .instanceMethod yX7_many, .selects RX7 yX7_many yX7_many, .initialized RX7, .code yX7_many cX7_many 5 (some .int), .methodLink RX7 47 yX7_ofL, .static yX7_ofL, .code yX7_ofL cX7_ofL 2 (some .int), .methodLink RX7 138 yX7_bitsOf, .static yX7_bitsOf, .code yX7_bitsOf cX7_bitsOf 3 (some .int), .constant RX7 122 (8388608), .constantFloat RX7 123 (1258291200)] ++ wsX70)
def wsX7_goesIn_r1 : List Cond := [Cond.fieldLink RX7 7 "MoodDrawersModel" "s" "[I", Cond.methodLink RX7 61 yX7_isLetter, Cond.instanceMethod yX7_isLetter, Cond.selects RX7 yX7_isLetter yX7_isLetter, Cond.initialized RX7, Cond.code yX7_isLetter cX7_isLetter 2 (some .boolean), Cond.methodLink RX7 39 yX7_in, Cond.static yX7_in, Cond.code yX7_in cX7_in 3 (some .boolean), Cond.methodLink RX7 47 yX7_ofL, Cond.static yX7_ofL, Cond.code yX7_ofL cX7_ofL 2 (some .int), Cond.methodLink RX7 142 yX7_putAside, Cond.instanceMethod yX7_putAside, Cond.selects RX7 yX7_putAside yX7_putAside, Cond.code yX7_putAside cX7_putAside 2 none, Cond.fieldLink RX7 13 "MoodDrawersModel" "aside" "[I", Cond.methodLink RX7 67 yX7_hour, Cond.instanceMethod yX7_hour, Cond.selects RX7 yX7_hour yX7_hour, Cond.code yX7_hour cX7_hour 2 none, Cond.methodLink RX7 35 yX7_ofD, Cond.static yX7_ofD, Cond.code yX7_ofD cX7_ofD 2 (some .int)]
def wsX7_goesIn_r2 : List Cond := [Cond.methodLink RX7 54 yX7_wouldGo, Cond.instanceMethod yX7_wouldGo, Cond.selects RX7 yX7_wouldGo yX7_wouldGo, Cond.code yX7_wouldGo cX7_wouldGo 4 (some .boolean), Cond.methodLink RX7 50 yX7_heat, Cond.instanceMethod yX7_heat, Cond.selects RX7 yX7_heat yX7_heat, Cond.code yX7_heat cX7_heat 3 (some .int), Cond.methodLink RX7 145 yX7_putBack, Cond.instanceMethod yX7_putBack, Cond.selects RX7 yX7_putBack yX7_putBack, Cond.code yX7_putBack cX7_putBack 2 none]
def wsX7_goesIn : List Cond := .code yX7_goesIn cX7_goesIn 4 (some .int) :: ((wsX7_goesIn_r1 ++ wsX7_goesIn_r2) ++ wsX70)
def wsX7_bestPost_r1 : List Cond := [Cond.fieldLink RX7 7 "MoodDrawersModel" "s" "[I", Cond.methodLink RX7 39 yX7_in, Cond.static yX7_in, Cond.initialized RX7, Cond.code yX7_in cX7_in 3 (some .boolean), Cond.methodLink RX7 142 yX7_putAside, Cond.instanceMethod yX7_putAside, Cond.selects RX7 yX7_putAside yX7_putAside, Cond.code yX7_putAside cX7_putAside 2 none, Cond.fieldLink RX7 13 "MoodDrawersModel" "aside" "[I", Cond.methodLink RX7 98 yX7_passes, Cond.instanceMethod yX7_passes, Cond.selects RX7 yX7_passes yX7_passes, Cond.code yX7_passes cX7_passes 4 (some .int), Cond.methodLink RX7 64 yX7_many, Cond.instanceMethod yX7_many, Cond.selects RX7 yX7_many yX7_many, Cond.code yX7_many cX7_many 5 (some .int), Cond.methodLink RX7 47 yX7_ofL, Cond.static yX7_ofL, Cond.code yX7_ofL cX7_ofL 2 (some .int), Cond.methodLink RX7 67 yX7_hour, Cond.instanceMethod yX7_hour, Cond.selects RX7 yX7_hour yX7_hour]
def wsX7_bestPost_r2 : List Cond := [Cond.code yX7_hour cX7_hour 2 none, Cond.methodLink RX7 35 yX7_ofD, Cond.static yX7_ofD, Cond.code yX7_ofD cX7_ofD 2 (some .int), Cond.methodLink RX7 54 yX7_wouldGo, Cond.instanceMethod yX7_wouldGo, Cond.selects RX7 yX7_wouldGo yX7_wouldGo, Cond.code yX7_wouldGo cX7_wouldGo 4 (some .boolean), Cond.methodLink RX7 50 yX7_heat, Cond.instanceMethod yX7_heat, Cond.selects RX7 yX7_heat yX7_heat, Cond.code yX7_heat cX7_heat 3 (some .int), Cond.methodLink RX7 145 yX7_putBack, Cond.instanceMethod yX7_putBack, Cond.selects RX7 yX7_putBack yX7_putBack, Cond.code yX7_putBack cX7_putBack 2 none]
def wsX7_bestPost : List Cond := .code yX7_bestPost cX7_bestPost 7 (some .int) :: ((wsX7_bestPost_r1 ++ wsX7_bestPost_r2) ++ wsX70)
def wsX7_mostRegretted : List Cond := .code yX7_mostRegretted cX7_mostRegretted 4 (some .int) :: ([.fieldLink RX7 7 "MoodDrawersModel" "s" "[I", .fieldLink RX7 29 "MoodDrawersModel" "regrets" "[I", .methodLink RX7 101 yX7_findRegrets, .instanceMethod yX7_findRegrets, .selects RX7 yX7_findRegrets yX7_findRegrets, .initialized RX7, .code yX7_findRegrets cX7_findRegrets 3 none, .fieldLink RX7 32 "MoodDrawersModel" "greatest" "[I", .methodLink RX7 47 yX7_ofL, .static yX7_ofL, .code yX7_ofL cX7_ofL 2 (some .int), .methodLink RX7 50 yX7_heat, .instanceMethod yX7_heat, .selects RX7 yX7_heat yX7_heat, .code yX7_heat cX7_heat 3 (some .int)] ++ wsX70)
def wsX7_ifSent_r1 : List Cond := [Cond.fieldLink RX7 7 "MoodDrawersModel" "s" "[I", Cond.methodLink RX7 61 yX7_isLetter, Cond.instanceMethod yX7_isLetter, Cond.selects RX7 yX7_isLetter yX7_isLetter, Cond.initialized RX7, Cond.code yX7_isLetter cX7_isLetter 2 (some .boolean), Cond.methodLink RX7 39 yX7_in, Cond.static yX7_in, Cond.code yX7_in cX7_in 3 (some .boolean), Cond.methodLink RX7 47 yX7_ofL, Cond.static yX7_ofL, Cond.code yX7_ofL cX7_ofL 2 (some .int), Cond.methodLink RX7 142 yX7_putAside, Cond.instanceMethod yX7_putAside, Cond.selects RX7 yX7_putAside yX7_putAside, Cond.code yX7_putAside cX7_putAside 2 none, Cond.fieldLink RX7 13 "MoodDrawersModel" "aside" "[I", Cond.methodLink RX7 50 yX7_heat, Cond.instanceMethod yX7_heat, Cond.selects RX7 yX7_heat yX7_heat, Cond.code yX7_heat cX7_heat 3 (some .int), Cond.methodLink RX7 148 yX7_ofLetter, Cond.instanceMethod yX7_ofLetter, Cond.selects RX7 yX7_ofLetter yX7_ofLetter]
def wsX7_ifSent_r2 : List Cond := [Cond.code yX7_ofLetter cX7_ofLetter 3 (some .int), Cond.fieldLink RX7 29 "MoodDrawersModel" "regrets" "[I", Cond.methodLink RX7 101 yX7_findRegrets, Cond.instanceMethod yX7_findRegrets, Cond.selects RX7 yX7_findRegrets yX7_findRegrets, Cond.code yX7_findRegrets cX7_findRegrets 3 none, Cond.fieldLink RX7 32 "MoodDrawersModel" "greatest" "[I", Cond.methodLink RX7 104 yX7_answering, Cond.instanceMethod yX7_answering, Cond.selects RX7 yX7_answering yX7_answering, Cond.code yX7_answering cX7_answering 4 (some .int), Cond.methodLink RX7 107 yX7_depth, Cond.instanceMethod yX7_depth, Cond.selects RX7 yX7_depth yX7_depth, Cond.code yX7_depth cX7_depth 4 (some .int), Cond.methodLink RX7 145 yX7_putBack, Cond.instanceMethod yX7_putBack, Cond.selects RX7 yX7_putBack yX7_putBack, Cond.code yX7_putBack cX7_putBack 2 none]
def wsX7_ifSent : List Cond := .code yX7_ifSent cX7_ifSent 4 (some .int) :: ((wsX7_ifSent_r1 ++ wsX7_ifSent_r2) ++ wsX70)
def wsX7_put : List Cond := .code yX7_put cX7_put 8 (some .int) :: ([.constantLong RX7 151 (255), .fieldLink RX7 119 "MoodDrawersModel" "length" "I", .fieldLink RX7 26 "MoodDrawersModel" "pad" "[I", .methodLink RX7 39 yX7_in, .static yX7_in, .initialized RX7, .code yX7_in cX7_in 3 (some .boolean)] ++ wsX70)
def wsX7_wipe : List Cond := .code yX7_wipe cX7_wipe 2 (some .int) :: ([.fieldLink RX7 119 "MoodDrawersModel" "length" "I"] ++ wsX70)
def wsX7_sign : List Cond := .code yX7_sign cX7_sign 4 (some .int) :: ([.fieldLink RX7 153 "MoodDrawersModel" "place" "I", .fieldLink RX7 119 "MoodDrawersModel" "length" "I", .fieldLink RX7 26 "MoodDrawersModel" "pad" "[I", .fieldLink RX7 156 "MoodDrawersModel" "isWrong" "Z", .methodLink RX7 39 yX7_in, .static yX7_in, .initialized RX7, .code yX7_in cX7_in 3 (some .boolean)] ++ wsX70)
def wsX7_isNext : List Cond := .code yX7_isNext cX7_isNext 3 (some .boolean) :: ([.fieldLink RX7 156 "MoodDrawersModel" "isWrong" "Z", .fieldLink RX7 153 "MoodDrawersModel" "place" "I", .fieldLink RX7 119 "MoodDrawersModel" "length" "I", .fieldLink RX7 26 "MoodDrawersModel" "pad" "[I", .methodLink RX7 39 yX7_in, .static yX7_in, .initialized RX7, .code yX7_in cX7_in 3 (some .boolean)] ++ wsX70)
def wsX7_number : List Cond := .code yX7_number cX7_number 2 (some .int) :: ([.methodLink RX7 160 yX7_sign, .instanceMethod yX7_sign, .selects RX7 yX7_sign yX7_sign, .initialized RX7, .code yX7_sign cX7_sign 4 (some .int), .fieldLink RX7 153 "MoodDrawersModel" "place" "I", .fieldLink RX7 119 "MoodDrawersModel" "length" "I", .fieldLink RX7 26 "MoodDrawersModel" "pad" "[I", .fieldLink RX7 156 "MoodDrawersModel" "isWrong" "Z", .methodLink RX7 39 yX7_in, .static yX7_in, .code yX7_in cX7_in 3 (some .boolean), .methodLink RX7 163 yX7_isNext, .instanceMethod yX7_isNext, .selects RX7 yX7_isNext yX7_isNext, .code yX7_isNext cX7_isNext 3 (some .boolean)] ++ wsX70)
def wsX7_order : List Cond := .code yX7_order cX7_order 4 none :: ([.fieldLink RX7 153 "MoodDrawersModel" "place" "I", .fieldLink RX7 119 "MoodDrawersModel" "length" "I", .fieldLink RX7 26 "MoodDrawersModel" "pad" "[I", .fieldLink RX7 156 "MoodDrawersModel" "isWrong" "Z", .fieldLink RX7 167 "MoodDrawersModel" "letter" "I", .fieldLink RX7 173 "MoodDrawersModel" "one" "I", .fieldLink RX7 176 "MoodDrawersModel" "two" "I", .fieldLink RX7 179 "MoodDrawersModel" "three" "I", .methodLink RX7 160 yX7_sign, .instanceMethod yX7_sign, .selects RX7 yX7_sign yX7_sign, .initialized RX7, .code yX7_sign cX7_sign 4 (some .int), .methodLink RX7 39 yX7_in, .static yX7_in, .code yX7_in cX7_in 3 (some .boolean), .methodLink RX7 170 yX7_number, .instanceMethod yX7_number, .selects RX7 yX7_number yX7_number, .code yX7_number cX7_number 2 (some .int), .methodLink RX7 163 yX7_isNext, .instanceMethod yX7_isNext, .selects RX7 yX7_isNext yX7_isNext, .code yX7_isNext cX7_isNext 3 (some .boolean)] ++ wsX70)
def wsX7_does_r1 : List Cond := [Cond.fieldLink RX7 167 "MoodDrawersModel" "letter" "I", Cond.fieldLink RX7 173 "MoodDrawersModel" "one" "I", Cond.fieldLink RX7 176 "MoodDrawersModel" "two" "I", Cond.fieldLink RX7 179 "MoodDrawersModel" "three" "I", Cond.methodLink RX7 73 yX7_writeFault, Cond.instanceMethod yX7_writeFault, Cond.selects RX7 yX7_writeFault yX7_writeFault, Cond.initialized RX7, Cond.code yX7_writeFault cX7_writeFault 4 (some .int), Cond.fieldLink RX7 7 "MoodDrawersModel" "s" "[I", Cond.methodLink RX7 58 yX7_isMood, Cond.static yX7_isMood, Cond.code yX7_isMood cX7_isMood 1 (some .boolean), Cond.methodLink RX7 39 yX7_in, Cond.static yX7_in, Cond.code yX7_in cX7_in 3 (some .boolean), Cond.methodLink RX7 61 yX7_isLetter, Cond.instanceMethod yX7_isLetter, Cond.selects RX7 yX7_isLetter yX7_isLetter, Cond.code yX7_isLetter cX7_isLetter 2 (some .boolean), Cond.methodLink RX7 64 yX7_many, Cond.instanceMethod yX7_many, Cond.selects RX7 yX7_many yX7_many, Cond.code yX7_many cX7_many 5 (some .int)]
def wsX7_does_r2 : List Cond := [Cond.methodLink RX7 47 yX7_ofL, Cond.static yX7_ofL, Cond.code yX7_ofL cX7_ofL 2 (some .int), Cond.methodLink RX7 95 yX7_passFault, Cond.instanceMethod yX7_passFault, Cond.selects RX7 yX7_passFault yX7_passFault, Cond.code yX7_passFault cX7_passFault 2 (some .int), Cond.methodLink RX7 89 yX7_burnFault, Cond.instanceMethod yX7_burnFault, Cond.selects RX7 yX7_burnFault yX7_burnFault, Cond.code yX7_burnFault cX7_burnFault 2 (some .int), Cond.methodLink RX7 35 yX7_ofD, Cond.static yX7_ofD, Cond.code yX7_ofD cX7_ofD 2 (some .int), Cond.methodLink RX7 83 yX7_hoursFault, Cond.instanceMethod yX7_hoursFault, Cond.selects RX7 yX7_hoursFault yX7_hoursFault, Cond.code yX7_hoursFault cX7_hoursFault 4 (some .int), Cond.methodLink RX7 77 yX7_writes, Cond.instanceMethod yX7_writes, Cond.selects RX7 yX7_writes yX7_writes, Cond.code yX7_writes cX7_writes 5 (some .int), Cond.methodLink RX7 98 yX7_passes, Cond.instanceMethod yX7_passes]
def wsX7_does_r3 : List Cond := [Cond.selects RX7 yX7_passes yX7_passes, Cond.code yX7_passes cX7_passes 4 (some .int), Cond.methodLink RX7 67 yX7_hour, Cond.instanceMethod yX7_hour, Cond.selects RX7 yX7_hour yX7_hour, Cond.code yX7_hour cX7_hour 2 none, Cond.methodLink RX7 54 yX7_wouldGo, Cond.instanceMethod yX7_wouldGo, Cond.selects RX7 yX7_wouldGo yX7_wouldGo, Cond.code yX7_wouldGo cX7_wouldGo 4 (some .boolean), Cond.methodLink RX7 50 yX7_heat, Cond.instanceMethod yX7_heat, Cond.selects RX7 yX7_heat yX7_heat, Cond.code yX7_heat cX7_heat 3 (some .int), Cond.methodLink RX7 92 yX7_burns, Cond.instanceMethod yX7_burns, Cond.selects RX7 yX7_burns yX7_burns, Cond.code yX7_burns cX7_burns 2 (some .int), Cond.methodLink RX7 86 yX7_putsHours, Cond.instanceMethod yX7_putsHours, Cond.selects RX7 yX7_putsHours yX7_putsHours, Cond.code yX7_putsHours cX7_putsHours 5 (some .int), Cond.methodLink RX7 80 yX7_turns, Cond.instanceMethod yX7_turns]
def wsX7_does_r4 : List Cond := [Cond.selects RX7 yX7_turns yX7_turns, Cond.code yX7_turns cX7_turns 2 (some .int)]
def wsX7_does : List Cond := .code yX7_does cX7_does 4 (some .boolean) :: ((wsX7_does_r1 ++ (wsX7_does_r2 ++ (wsX7_does_r3 ++ wsX7_does_r4))) ++ wsX70)
def wsX7_go_r1 : List Cond := [Cond.fieldLink RX7 153 "MoodDrawersModel" "place" "I", Cond.fieldLink RX7 156 "MoodDrawersModel" "isWrong" "Z", Cond.fieldLink RX7 119 "MoodDrawersModel" "length" "I", Cond.methodLink RX7 182 yX7_order, Cond.instanceMethod yX7_order, Cond.selects RX7 yX7_order yX7_order, Cond.initialized RX7, Cond.code yX7_order cX7_order 4 none, Cond.fieldLink RX7 26 "MoodDrawersModel" "pad" "[I", Cond.fieldLink RX7 167 "MoodDrawersModel" "letter" "I", Cond.fieldLink RX7 173 "MoodDrawersModel" "one" "I", Cond.fieldLink RX7 176 "MoodDrawersModel" "two" "I", Cond.fieldLink RX7 179 "MoodDrawersModel" "three" "I", Cond.methodLink RX7 160 yX7_sign, Cond.instanceMethod yX7_sign, Cond.selects RX7 yX7_sign yX7_sign, Cond.code yX7_sign cX7_sign 4 (some .int), Cond.methodLink RX7 39 yX7_in, Cond.static yX7_in, Cond.code yX7_in cX7_in 3 (some .boolean), Cond.methodLink RX7 170 yX7_number, Cond.instanceMethod yX7_number, Cond.selects RX7 yX7_number yX7_number, Cond.code yX7_number cX7_number 2 (some .int)]
def wsX7_go_r2 : List Cond := [Cond.methodLink RX7 163 yX7_isNext, Cond.instanceMethod yX7_isNext, Cond.selects RX7 yX7_isNext yX7_isNext, Cond.code yX7_isNext cX7_isNext 3 (some .boolean), Cond.methodLink RX7 185 yX7_does, Cond.instanceMethod yX7_does, Cond.selects RX7 yX7_does yX7_does, Cond.code yX7_does cX7_does 4 (some .boolean), Cond.methodLink RX7 73 yX7_writeFault, Cond.instanceMethod yX7_writeFault, Cond.selects RX7 yX7_writeFault yX7_writeFault, Cond.code yX7_writeFault cX7_writeFault 4 (some .int), Cond.fieldLink RX7 7 "MoodDrawersModel" "s" "[I", Cond.methodLink RX7 58 yX7_isMood, Cond.static yX7_isMood, Cond.code yX7_isMood cX7_isMood 1 (some .boolean), Cond.methodLink RX7 61 yX7_isLetter, Cond.instanceMethod yX7_isLetter, Cond.selects RX7 yX7_isLetter yX7_isLetter, Cond.code yX7_isLetter cX7_isLetter 2 (some .boolean), Cond.methodLink RX7 64 yX7_many, Cond.instanceMethod yX7_many, Cond.selects RX7 yX7_many yX7_many, Cond.code yX7_many cX7_many 5 (some .int)]
def wsX7_go_r3 : List Cond := [Cond.methodLink RX7 47 yX7_ofL, Cond.static yX7_ofL, Cond.code yX7_ofL cX7_ofL 2 (some .int), Cond.methodLink RX7 95 yX7_passFault, Cond.instanceMethod yX7_passFault, Cond.selects RX7 yX7_passFault yX7_passFault, Cond.code yX7_passFault cX7_passFault 2 (some .int), Cond.methodLink RX7 89 yX7_burnFault, Cond.instanceMethod yX7_burnFault, Cond.selects RX7 yX7_burnFault yX7_burnFault, Cond.code yX7_burnFault cX7_burnFault 2 (some .int), Cond.methodLink RX7 35 yX7_ofD, Cond.static yX7_ofD, Cond.code yX7_ofD cX7_ofD 2 (some .int), Cond.methodLink RX7 83 yX7_hoursFault, Cond.instanceMethod yX7_hoursFault, Cond.selects RX7 yX7_hoursFault yX7_hoursFault, Cond.code yX7_hoursFault cX7_hoursFault 4 (some .int), Cond.methodLink RX7 77 yX7_writes, Cond.instanceMethod yX7_writes, Cond.selects RX7 yX7_writes yX7_writes, Cond.code yX7_writes cX7_writes 5 (some .int), Cond.methodLink RX7 98 yX7_passes, Cond.instanceMethod yX7_passes]
def wsX7_go_r4 : List Cond := [Cond.selects RX7 yX7_passes yX7_passes, Cond.code yX7_passes cX7_passes 4 (some .int), Cond.methodLink RX7 67 yX7_hour, Cond.instanceMethod yX7_hour, Cond.selects RX7 yX7_hour yX7_hour, Cond.code yX7_hour cX7_hour 2 none, Cond.methodLink RX7 54 yX7_wouldGo, Cond.instanceMethod yX7_wouldGo, Cond.selects RX7 yX7_wouldGo yX7_wouldGo, Cond.code yX7_wouldGo cX7_wouldGo 4 (some .boolean), Cond.methodLink RX7 50 yX7_heat, Cond.instanceMethod yX7_heat, Cond.selects RX7 yX7_heat yX7_heat, Cond.code yX7_heat cX7_heat 3 (some .int), Cond.methodLink RX7 92 yX7_burns, Cond.instanceMethod yX7_burns, Cond.selects RX7 yX7_burns yX7_burns, Cond.code yX7_burns cX7_burns 2 (some .int), Cond.methodLink RX7 86 yX7_putsHours, Cond.instanceMethod yX7_putsHours, Cond.selects RX7 yX7_putsHours yX7_putsHours, Cond.code yX7_putsHours cX7_putsHours 5 (some .int), Cond.methodLink RX7 80 yX7_turns, Cond.instanceMethod yX7_turns]
def wsX7_go_r5 : List Cond := [Cond.selects RX7 yX7_turns yX7_turns, Cond.code yX7_turns cX7_turns 2 (some .int)]
def wsX7_go : List Cond := .code yX7_go cX7_go 6 (some .int) :: ((wsX7_go_r1 ++ (wsX7_go_r2 ++ (wsX7_go_r3 ++ (wsX7_go_r4 ++ wsX7_go_r5)))) ++ wsX70)
def wsX7_fault_r1 : List Cond := [Cond.fieldLink RX7 156 "MoodDrawersModel" "isWrong" "Z", Cond.fieldLink RX7 153 "MoodDrawersModel" "place" "I", Cond.methodLink RX7 189 yX7_go, Cond.instanceMethod yX7_go, Cond.selects RX7 yX7_go yX7_go, Cond.initialized RX7, Cond.code yX7_go cX7_go 6 (some .int), Cond.fieldLink RX7 119 "MoodDrawersModel" "length" "I", Cond.methodLink RX7 182 yX7_order, Cond.instanceMethod yX7_order, Cond.selects RX7 yX7_order yX7_order, Cond.code yX7_order cX7_order 4 none, Cond.fieldLink RX7 26 "MoodDrawersModel" "pad" "[I", Cond.fieldLink RX7 167 "MoodDrawersModel" "letter" "I", Cond.fieldLink RX7 173 "MoodDrawersModel" "one" "I", Cond.fieldLink RX7 176 "MoodDrawersModel" "two" "I", Cond.fieldLink RX7 179 "MoodDrawersModel" "three" "I", Cond.methodLink RX7 160 yX7_sign, Cond.instanceMethod yX7_sign, Cond.selects RX7 yX7_sign yX7_sign, Cond.code yX7_sign cX7_sign 4 (some .int), Cond.methodLink RX7 39 yX7_in, Cond.static yX7_in, Cond.code yX7_in cX7_in 3 (some .boolean)]
def wsX7_fault_r2 : List Cond := [Cond.methodLink RX7 170 yX7_number, Cond.instanceMethod yX7_number, Cond.selects RX7 yX7_number yX7_number, Cond.code yX7_number cX7_number 2 (some .int), Cond.methodLink RX7 163 yX7_isNext, Cond.instanceMethod yX7_isNext, Cond.selects RX7 yX7_isNext yX7_isNext, Cond.code yX7_isNext cX7_isNext 3 (some .boolean), Cond.methodLink RX7 185 yX7_does, Cond.instanceMethod yX7_does, Cond.selects RX7 yX7_does yX7_does, Cond.code yX7_does cX7_does 4 (some .boolean), Cond.methodLink RX7 73 yX7_writeFault, Cond.instanceMethod yX7_writeFault, Cond.selects RX7 yX7_writeFault yX7_writeFault, Cond.code yX7_writeFault cX7_writeFault 4 (some .int), Cond.fieldLink RX7 7 "MoodDrawersModel" "s" "[I", Cond.methodLink RX7 58 yX7_isMood, Cond.static yX7_isMood, Cond.code yX7_isMood cX7_isMood 1 (some .boolean), Cond.methodLink RX7 61 yX7_isLetter, Cond.instanceMethod yX7_isLetter, Cond.selects RX7 yX7_isLetter yX7_isLetter, Cond.code yX7_isLetter cX7_isLetter 2 (some .boolean)]
def wsX7_fault_r3 : List Cond := [Cond.methodLink RX7 64 yX7_many, Cond.instanceMethod yX7_many, Cond.selects RX7 yX7_many yX7_many, Cond.code yX7_many cX7_many 5 (some .int), Cond.methodLink RX7 47 yX7_ofL, Cond.static yX7_ofL, Cond.code yX7_ofL cX7_ofL 2 (some .int), Cond.methodLink RX7 95 yX7_passFault, Cond.instanceMethod yX7_passFault, Cond.selects RX7 yX7_passFault yX7_passFault, Cond.code yX7_passFault cX7_passFault 2 (some .int), Cond.methodLink RX7 89 yX7_burnFault, Cond.instanceMethod yX7_burnFault, Cond.selects RX7 yX7_burnFault yX7_burnFault, Cond.code yX7_burnFault cX7_burnFault 2 (some .int), Cond.methodLink RX7 35 yX7_ofD, Cond.static yX7_ofD, Cond.code yX7_ofD cX7_ofD 2 (some .int), Cond.methodLink RX7 83 yX7_hoursFault, Cond.instanceMethod yX7_hoursFault, Cond.selects RX7 yX7_hoursFault yX7_hoursFault, Cond.code yX7_hoursFault cX7_hoursFault 4 (some .int), Cond.methodLink RX7 77 yX7_writes, Cond.instanceMethod yX7_writes]
def wsX7_fault_r4 : List Cond := [Cond.selects RX7 yX7_writes yX7_writes, Cond.code yX7_writes cX7_writes 5 (some .int), Cond.methodLink RX7 98 yX7_passes, Cond.instanceMethod yX7_passes, Cond.selects RX7 yX7_passes yX7_passes, Cond.code yX7_passes cX7_passes 4 (some .int), Cond.methodLink RX7 67 yX7_hour, Cond.instanceMethod yX7_hour, Cond.selects RX7 yX7_hour yX7_hour, Cond.code yX7_hour cX7_hour 2 none, Cond.methodLink RX7 54 yX7_wouldGo, Cond.instanceMethod yX7_wouldGo, Cond.selects RX7 yX7_wouldGo yX7_wouldGo, Cond.code yX7_wouldGo cX7_wouldGo 4 (some .boolean), Cond.methodLink RX7 50 yX7_heat, Cond.instanceMethod yX7_heat, Cond.selects RX7 yX7_heat yX7_heat, Cond.code yX7_heat cX7_heat 3 (some .int), Cond.methodLink RX7 92 yX7_burns, Cond.instanceMethod yX7_burns, Cond.selects RX7 yX7_burns yX7_burns, Cond.code yX7_burns cX7_burns 2 (some .int), Cond.methodLink RX7 86 yX7_putsHours, Cond.instanceMethod yX7_putsHours]
def wsX7_fault_r5 : List Cond := [Cond.selects RX7 yX7_putsHours yX7_putsHours, Cond.code yX7_putsHours cX7_putsHours 5 (some .int), Cond.methodLink RX7 80 yX7_turns, Cond.instanceMethod yX7_turns, Cond.selects RX7 yX7_turns yX7_turns, Cond.code yX7_turns cX7_turns 2 (some .int)]
def wsX7_fault : List Cond := .code yX7_fault cX7_fault 2 (some .int) :: ((wsX7_fault_r1 ++ (wsX7_fault_r2 ++ (wsX7_fault_r3 ++ (wsX7_fault_r4 ++ wsX7_fault_r5)))) ++ wsX70)
def wsX7_carryOut_r1 : List Cond := [Cond.fieldLink RX7 156 "MoodDrawersModel" "isWrong" "Z", Cond.fieldLink RX7 119 "MoodDrawersModel" "length" "I", Cond.methodLink RX7 189 yX7_go, Cond.instanceMethod yX7_go, Cond.selects RX7 yX7_go yX7_go, Cond.initialized RX7, Cond.code yX7_go cX7_go 6 (some .int), Cond.fieldLink RX7 153 "MoodDrawersModel" "place" "I", Cond.methodLink RX7 182 yX7_order, Cond.instanceMethod yX7_order, Cond.selects RX7 yX7_order yX7_order, Cond.code yX7_order cX7_order 4 none, Cond.fieldLink RX7 26 "MoodDrawersModel" "pad" "[I", Cond.fieldLink RX7 167 "MoodDrawersModel" "letter" "I", Cond.fieldLink RX7 173 "MoodDrawersModel" "one" "I", Cond.fieldLink RX7 176 "MoodDrawersModel" "two" "I", Cond.fieldLink RX7 179 "MoodDrawersModel" "three" "I", Cond.methodLink RX7 160 yX7_sign, Cond.instanceMethod yX7_sign, Cond.selects RX7 yX7_sign yX7_sign, Cond.code yX7_sign cX7_sign 4 (some .int), Cond.methodLink RX7 39 yX7_in, Cond.static yX7_in, Cond.code yX7_in cX7_in 3 (some .boolean)]
def wsX7_carryOut_r2 : List Cond := [Cond.methodLink RX7 170 yX7_number, Cond.instanceMethod yX7_number, Cond.selects RX7 yX7_number yX7_number, Cond.code yX7_number cX7_number 2 (some .int), Cond.methodLink RX7 163 yX7_isNext, Cond.instanceMethod yX7_isNext, Cond.selects RX7 yX7_isNext yX7_isNext, Cond.code yX7_isNext cX7_isNext 3 (some .boolean), Cond.methodLink RX7 185 yX7_does, Cond.instanceMethod yX7_does, Cond.selects RX7 yX7_does yX7_does, Cond.code yX7_does cX7_does 4 (some .boolean), Cond.methodLink RX7 73 yX7_writeFault, Cond.instanceMethod yX7_writeFault, Cond.selects RX7 yX7_writeFault yX7_writeFault, Cond.code yX7_writeFault cX7_writeFault 4 (some .int), Cond.fieldLink RX7 7 "MoodDrawersModel" "s" "[I", Cond.methodLink RX7 58 yX7_isMood, Cond.static yX7_isMood, Cond.code yX7_isMood cX7_isMood 1 (some .boolean), Cond.methodLink RX7 61 yX7_isLetter, Cond.instanceMethod yX7_isLetter, Cond.selects RX7 yX7_isLetter yX7_isLetter, Cond.code yX7_isLetter cX7_isLetter 2 (some .boolean)]
def wsX7_carryOut_r3 : List Cond := [Cond.methodLink RX7 64 yX7_many, Cond.instanceMethod yX7_many, Cond.selects RX7 yX7_many yX7_many, Cond.code yX7_many cX7_many 5 (some .int), Cond.methodLink RX7 47 yX7_ofL, Cond.static yX7_ofL, Cond.code yX7_ofL cX7_ofL 2 (some .int), Cond.methodLink RX7 95 yX7_passFault, Cond.instanceMethod yX7_passFault, Cond.selects RX7 yX7_passFault yX7_passFault, Cond.code yX7_passFault cX7_passFault 2 (some .int), Cond.methodLink RX7 89 yX7_burnFault, Cond.instanceMethod yX7_burnFault, Cond.selects RX7 yX7_burnFault yX7_burnFault, Cond.code yX7_burnFault cX7_burnFault 2 (some .int), Cond.methodLink RX7 35 yX7_ofD, Cond.static yX7_ofD, Cond.code yX7_ofD cX7_ofD 2 (some .int), Cond.methodLink RX7 83 yX7_hoursFault, Cond.instanceMethod yX7_hoursFault, Cond.selects RX7 yX7_hoursFault yX7_hoursFault, Cond.code yX7_hoursFault cX7_hoursFault 4 (some .int), Cond.methodLink RX7 77 yX7_writes, Cond.instanceMethod yX7_writes]
def wsX7_carryOut_r4 : List Cond := [Cond.selects RX7 yX7_writes yX7_writes, Cond.code yX7_writes cX7_writes 5 (some .int), Cond.methodLink RX7 98 yX7_passes, Cond.instanceMethod yX7_passes, Cond.selects RX7 yX7_passes yX7_passes, Cond.code yX7_passes cX7_passes 4 (some .int), Cond.methodLink RX7 67 yX7_hour, Cond.instanceMethod yX7_hour, Cond.selects RX7 yX7_hour yX7_hour, Cond.code yX7_hour cX7_hour 2 none, Cond.methodLink RX7 54 yX7_wouldGo, Cond.instanceMethod yX7_wouldGo, Cond.selects RX7 yX7_wouldGo yX7_wouldGo, Cond.code yX7_wouldGo cX7_wouldGo 4 (some .boolean), Cond.methodLink RX7 50 yX7_heat, Cond.instanceMethod yX7_heat, Cond.selects RX7 yX7_heat yX7_heat, Cond.code yX7_heat cX7_heat 3 (some .int), Cond.methodLink RX7 92 yX7_burns, Cond.instanceMethod yX7_burns, Cond.selects RX7 yX7_burns yX7_burns, Cond.code yX7_burns cX7_burns 2 (some .int), Cond.methodLink RX7 86 yX7_putsHours, Cond.instanceMethod yX7_putsHours]
def wsX7_carryOut_r5 : List Cond := [Cond.selects RX7 yX7_putsHours yX7_putsHours, Cond.code yX7_putsHours cX7_putsHours 5 (some .int), Cond.methodLink RX7 80 yX7_turns, Cond.instanceMethod yX7_turns, Cond.selects RX7 yX7_turns yX7_turns, Cond.code yX7_turns cX7_turns 2 (some .int), Cond.methodLink RX7 70 yX7_know, Cond.instanceMethod yX7_know, Cond.selects RX7 yX7_know yX7_know, Cond.code yX7_know cX7_know 2 none, Cond.fieldLink RX7 43 "MoodDrawersModel" "known" "I", Cond.fieldLink RX7 16 "MoodDrawersModel" "before" "[I"]
def wsX7_carryOut : List Cond := .code yX7_carryOut cX7_carryOut 3 (some .int) :: ((wsX7_carryOut_r1 ++ (wsX7_carryOut_r2 ++ (wsX7_carryOut_r3 ++ (wsX7_carryOut_r4 ++ wsX7_carryOut_r5)))) ++ wsX70)
def wsX7_undo : List Cond := .code yX7_undo cX7_undo 2 (some .int) :: ([.fieldLink RX7 43 "MoodDrawersModel" "known" "I", .fieldLink RX7 7 "MoodDrawersModel" "s" "[I", .fieldLink RX7 16 "MoodDrawersModel" "before" "[I"] ++ wsX70)
def wsX7_save : List Cond := .code yX7_save cX7_save 3 (some .int) :: ([.fieldLink RX7 19 "MoodDrawersModel" "slots" "[I", .fieldLink RX7 7 "MoodDrawersModel" "s" "[I", .fieldLink RX7 22 "MoodDrawersModel" "isSaved" "[Z", .methodLink RX7 39 yX7_in, .static yX7_in, .initialized RX7, .code yX7_in cX7_in 3 (some .boolean)] ++ wsX70)
def wsX7_restore : List Cond := .code yX7_restore cX7_restore 3 (some .int) :: ([.fieldLink RX7 22 "MoodDrawersModel" "isSaved" "[Z", .fieldLink RX7 7 "MoodDrawersModel" "s" "[I", .fieldLink RX7 19 "MoodDrawersModel" "slots" "[I", .methodLink RX7 39 yX7_in, .static yX7_in, .initialized RX7, .code yX7_in cX7_in 3 (some .boolean), .methodLink RX7 70 yX7_know, .instanceMethod yX7_know, .selects RX7 yX7_know yX7_know, .code yX7_know cX7_know 2 none, .fieldLink RX7 43 "MoodDrawersModel" "known" "I", .fieldLink RX7 16 "MoodDrawersModel" "before" "[I"] ++ wsX70)
def wsJ9_max_7cf53 : List Cond := .code yJ9_max_7cf53 cJ9_max_7cf53 2 (some .int) :: ([])
def wsJ9_min_7cf53 : List Cond := .code yJ9_min_7cf53 cJ9_min_7cf53 2 (some .int) :: ([])
def wsL_law_r1 : List Cond := [Cond.classLink RL 7 RX6, Cond.instantiable RX6 5, Cond.initialized RX6, Cond.classLink RL 10 RX7, Cond.instantiable RX7 16, Cond.initialized RX7, Cond.constantLong RL 87 (4294967295), Cond.methodLink RL 9 yX6_init, Cond.instanceMethod yX6_init, Cond.code yX6_init cX6_init 1 none, Cond.methodLink RX6 1 objectInit, Cond.instanceMethod objectInit, Cond.code objectInit ⟨#[0xb1]⟩ 1 none, Cond.classLink RX6 7 RX0, Cond.instantiable RX0 4, Cond.initialized RX0, Cond.fieldLink RX6 10 "MoodDrawers" "desk" "LMoodDrawers$Desk;", Cond.classLink RX6 16 RX5, Cond.instantiable RX5 1, Cond.initialized RX5, Cond.fieldLink RX6 19 "MoodDrawers" "regrets" "LMoodDrawers$Regrets;", Cond.classLink RX6 23 RX4, Cond.instantiable RX4 7, Cond.initialized RX4]
def wsL_law_r2 : List Cond := [Cond.fieldLink RX6 26 "MoodDrawers" "pad" "LMoodDrawers$Pad;", Cond.classLink RX6 30 RX2, Cond.instantiable RX2 2, Cond.initialized RX2, Cond.fieldLink RX6 33 "MoodDrawers" "history" "LMoodDrawers$History;", Cond.fieldLink RX6 37 "MoodDrawers" "slots" "[LMoodDrawers$Desk;", Cond.instanceMethod yX0_init, Cond.code yX0_init cX0_init 1 none, Cond.methodLink RX0 3 objectInit, Cond.arrayClass .int, Cond.fieldLink RX0 9 "MoodDrawers$Desk" "settings" "[I", Cond.classLink RX0 15 RX1, Cond.instantiable RX1 4, Cond.initialized RX1, Cond.fieldLink RX0 18 "MoodDrawers$Desk" "drawers" "LMoodDrawers$Drawers;", Cond.classLink RX0 22 RX3, Cond.instantiable RX3 8, Cond.initialized RX3, Cond.fieldLink RX0 25 "MoodDrawers$Desk" "letters" "LMoodDrawers$Letters;", Cond.instanceMethod yX1_init, Cond.code yX1_init cX1_init 1 none, Cond.methodLink RX1 3 objectInit, Cond.fieldLink RX1 9 "MoodDrawers$Drawers" "restDays" "[I", Cond.fieldLink RX1 15 "MoodDrawers$Drawers" "locked" "[I"]
def wsL_law_r3 : List Cond := [Cond.fieldLink RX1 18 "MoodDrawers$Drawers" "unlockHour" "[I", Cond.fieldLink RX1 21 "MoodDrawers$Drawers" "lockHour" "[I", Cond.instanceMethod yX3_init, Cond.code yX3_init cX3_init 1 none, Cond.methodLink RX3 3 objectInit, Cond.fieldLink RX3 9 "MoodDrawers$Letters" "mood" "[I", Cond.fieldLink RX3 15 "MoodDrawers$Letters" "heat" "[I", Cond.fieldLink RX3 18 "MoodDrawers$Letters" "writtenOn" "[I", Cond.fieldLink RX3 21 "MoodDrawers$Letters" "answered" "[I", Cond.fieldLink RX3 24 "MoodDrawers$Letters" "how" "[I", Cond.fieldLink RX3 27 "MoodDrawers$Letters" "sentOn" "[I", Cond.fieldLink RX3 30 "MoodDrawers$Letters" "sentHeat" "[I", Cond.instanceMethod yX5_init, Cond.code yX5_init cX5_init 1 none, Cond.methodLink RX5 3 objectInit, Cond.fieldLink RX5 9 "MoodDrawers$Regrets" "regret" "[I", Cond.instanceMethod yX4_init, Cond.code yX4_init cX4_init 1 none, Cond.methodLink RX4 3 objectInit, Cond.arrayClass .char, Cond.fieldLink RX4 9 "MoodDrawers$Pad" "text" "[C", Cond.instanceMethod yX2_init, Cond.code yX2_init cX2_init 1 none, Cond.methodLink RX2 3 objectInit]
def wsL_law_r4 : List Cond := [Cond.classLink RX2 9 RX0, Cond.fieldLink RX2 11 "MoodDrawers$History" "rows" "[LMoodDrawers$Desk;", Cond.methodLink RL 12 yX7_init, Cond.instanceMethod yX7_init, Cond.code yX7_init cX7_init 2 none, Cond.methodLink RX7 1 objectInit, Cond.fieldLink RX7 7 "MoodDrawersModel" "s" "[I", Cond.fieldLink RX7 13 "MoodDrawersModel" "aside" "[I", Cond.fieldLink RX7 16 "MoodDrawersModel" "before" "[I", Cond.fieldLink RX7 19 "MoodDrawersModel" "slots" "[I", Cond.arrayClass .boolean, Cond.fieldLink RX7 22 "MoodDrawersModel" "isSaved" "[Z", Cond.fieldLink RX7 26 "MoodDrawersModel" "pad" "[I", Cond.fieldLink RX7 29 "MoodDrawersModel" "regrets" "[I", Cond.fieldLink RX7 32 "MoodDrawersModel" "greatest" "[I", Cond.methodLink RX7 35 yX7_ofD, Cond.static yX7_ofD, Cond.code yX7_ofD cX7_ofD 2 (some .int), Cond.methodLink RL 13 yX6_set, Cond.instanceMethod yX6_set, Cond.selects RX6 yX6_set yX6_set, Cond.code yX6_set cX6_set 3 (some .int), Cond.methodLink RX6 41 yX2_prepare, Cond.instanceMethod yX2_prepare]
def wsL_law_r5 : List Cond := [Cond.selects RX2 yX2_prepare yX2_prepare, Cond.code yX2_prepare cX2_prepare 3 none, Cond.fieldLink RX2 17 "MoodDrawers$History" "kept" "I", Cond.methodLink RX2 22 yX0_copyFrom, Cond.instanceMethod yX0_copyFrom, Cond.selects RX0 yX0_copyFrom yX0_copyFrom, Cond.code yX0_copyFrom cX0_copyFrom 2 none, Cond.fieldLink RX0 33 "MoodDrawers$Desk" "now" "I", Cond.static yX6_copy, Cond.code yX6_copy cX6_copy 2 none, Cond.methodLink RX6 251 Lib.Math.min.name, Cond.static Lib.Math.min.name, Cond.initialized "java/lang/Math", Cond.code Lib.Math.min.name Lib.Math.min.code 2 (some .int), Cond.methodLink RX6 256 arraycopyName, Cond.native arraycopyName, Cond.static arraycopyName, Cond.initialized "java/lang/System", Cond.methodLink RX0 37 yX1_copyFrom, Cond.instanceMethod yX1_copyFrom, Cond.selects RX1 yX1_copyFrom yX1_copyFrom, Cond.code yX1_copyFrom cX1_copyFrom 2 none, Cond.methodLink RX0 41 yX3_copyFrom, Cond.instanceMethod yX3_copyFrom]
def wsL_law_r6 : List Cond := [Cond.selects RX3 yX3_copyFrom yX3_copyFrom, Cond.code yX3_copyFrom cX3_copyFrom 2 none, Cond.fieldLink RX3 33 "MoodDrawers$Letters" "written" "I", Cond.methodLink RX6 45 yX0_changeSetting, Cond.instanceMethod yX0_changeSetting, Cond.selects RX0 yX0_changeSetting yX0_changeSetting, Cond.code yX0_changeSetting cX0_changeSetting 4 (some .int), Cond.methodLink RX6 49 yX6_recorded, Cond.instanceMethod yX6_recorded, Cond.selects RX6 yX6_recorded yX6_recorded, Cond.code yX6_recorded cX6_recorded 2 (some .int), Cond.methodLink RX6 72 yX2_keepPrepared, Cond.instanceMethod yX2_keepPrepared, Cond.selects RX2 yX2_keepPrepared yX2_keepPrepared, Cond.code yX2_keepPrepared cX2_keepPrepared 3 none, Cond.methodLink RL 17 yX7_set, Cond.instanceMethod yX7_set, Cond.selects RX7 yX7_set yX7_set, Cond.code yX7_set cX7_set 5 (some .int), Cond.methodLink RX7 39 yX7_in, Cond.static yX7_in, Cond.code yX7_in cX7_in 3 (some .boolean), Cond.methodLink RX7 70 yX7_know, Cond.instanceMethod yX7_know]
def wsL_law_r7 : List Cond := [Cond.selects RX7 yX7_know yX7_know, Cond.code yX7_know cX7_know 2 none, Cond.fieldLink RX7 43 "MoodDrawersModel" "known" "I", Cond.methodLink RL 18 yX6_write, Cond.instanceMethod yX6_write, Cond.selects RX6 yX6_write yX6_write, Cond.code yX6_write cX6_write 4 (some .int), Cond.methodLink RX6 53 yX0_writeLetter, Cond.instanceMethod yX0_writeLetter, Cond.selects RX0 yX0_writeLetter yX0_writeLetter, Cond.code yX0_writeLetter cX0_writeLetter 5 (some .int), Cond.fieldLink RX0 54 "MoodDrawers$Letters" "written" "I", Cond.fieldLink RX0 61 "MoodDrawers$Letters" "how" "[I", Cond.fieldLink RX0 64 "MoodDrawers$Letters" "mood" "[I", Cond.fieldLink RX0 67 "MoodDrawers$Letters" "heat" "[I", Cond.fieldLink RX0 70 "MoodDrawers$Letters" "writtenOn" "[I", Cond.fieldLink RX0 77 "MoodDrawers$Letters" "answered" "[I", Cond.fieldLink RX0 80 "MoodDrawers$Letters" "sentOn" "[I", Cond.static yX6_isMood, Cond.code yX6_isMood cX6_isMood 1 (some .boolean), Cond.methodLink RX0 51 yX3_isLetter, Cond.instanceMethod yX3_isLetter, Cond.selects RX3 yX3_isLetter yX3_isLetter, Cond.code yX3_isLetter cX3_isLetter 2 (some .boolean)]
def wsL_law_r8 : List Cond := [Cond.methodLink RX0 57 yX3_ofMood, Cond.instanceMethod yX3_ofMood, Cond.selects RX3 yX3_ofMood yX3_ofMood, Cond.code yX3_ofMood cX3_ofMood 5 (some .int), Cond.methodLink RX0 73 yX0_today, Cond.instanceMethod yX0_today, Cond.selects RX0 yX0_today yX0_today, Cond.code yX0_today cX0_today 1 (some .int), Cond.methodLink RL 22 yX7_write, Cond.instanceMethod yX7_write, Cond.selects RX7 yX7_write yX7_write, Cond.code yX7_write cX7_write 5 (some .int), Cond.methodLink RX7 73 yX7_writeFault, Cond.instanceMethod yX7_writeFault, Cond.selects RX7 yX7_writeFault yX7_writeFault, Cond.code yX7_writeFault cX7_writeFault 4 (some .int), Cond.methodLink RX7 58 yX7_isMood, Cond.static yX7_isMood, Cond.code yX7_isMood cX7_isMood 1 (some .boolean), Cond.methodLink RX7 61 yX7_isLetter, Cond.instanceMethod yX7_isLetter, Cond.selects RX7 yX7_isLetter yX7_isLetter, Cond.code yX7_isLetter cX7_isLetter 2 (some .boolean), Cond.methodLink RX7 64 yX7_many]
def wsL_law_r9 : List Cond := [Cond.instanceMethod yX7_many, Cond.selects RX7 yX7_many yX7_many, Cond.code yX7_many cX7_many 5 (some .int), Cond.methodLink RX7 47 yX7_ofL, Cond.static yX7_ofL, Cond.code yX7_ofL cX7_ofL 2 (some .int), Cond.methodLink RX7 77 yX7_writes, Cond.instanceMethod yX7_writes, Cond.selects RX7 yX7_writes yX7_writes, Cond.code yX7_writes cX7_writes 5 (some .int), Cond.methodLink RL 23 yX6_turn, Cond.instanceMethod yX6_turn, Cond.selects RX6 yX6_turn yX6_turn, Cond.code yX6_turn cX6_turn 2 (some .int), Cond.methodLink RX6 57 yX0_turnKey, Cond.instanceMethod yX0_turnKey, Cond.selects RX0 yX0_turnKey yX0_turnKey, Cond.code yX0_turnKey cX0_turnKey 2 (some .int), Cond.fieldLink RX0 83 "MoodDrawers$Drawers" "locked" "[I", Cond.methodLink RL 27 yX7_turn, Cond.instanceMethod yX7_turn, Cond.selects RX7 yX7_turn yX7_turn, Cond.code yX7_turn cX7_turn 2 (some .int), Cond.methodLink RX7 80 yX7_turns]
def wsL_law_r10 : List Cond := [Cond.instanceMethod yX7_turns, Cond.selects RX7 yX7_turns yX7_turns, Cond.code yX7_turns cX7_turns 2 (some .int), Cond.methodLink RL 28 yX6_rest, Cond.instanceMethod yX6_rest, Cond.selects RX6 yX6_rest yX6_rest, Cond.code yX6_rest cX6_rest 3 (some .int), Cond.methodLink RX6 60 yX0_changeRest, Cond.instanceMethod yX0_changeRest, Cond.selects RX0 yX0_changeRest yX0_changeRest, Cond.code yX0_changeRest cX0_changeRest 4 (some .int), Cond.fieldLink RX0 86 "MoodDrawers$Drawers" "restDays" "[I", Cond.methodLink RL 31 yX7_rest, Cond.instanceMethod yX7_rest, Cond.selects RX7 yX7_rest yX7_rest, Cond.code yX7_rest cX7_rest 4 (some .int), Cond.methodLink RL 32 yX6_hours, Cond.instanceMethod yX6_hours, Cond.selects RX6 yX6_hours yX6_hours, Cond.code yX6_hours cX6_hours 4 (some .int), Cond.methodLink RX6 63 yX0_changeHours, Cond.instanceMethod yX0_changeHours, Cond.selects RX0 yX0_changeHours yX0_changeHours, Cond.code yX0_changeHours cX0_changeHours 5 (some .int)]
def wsL_law_r11 : List Cond := [Cond.fieldLink RX0 92 "MoodDrawers$Drawers" "unlockHour" "[I", Cond.fieldLink RX0 95 "MoodDrawers$Drawers" "lockHour" "[I", Cond.static yX6_isHour, Cond.code yX6_isHour cX6_isHour 1 (some .boolean), Cond.methodLink RL 35 yX7_hours, Cond.instanceMethod yX7_hours, Cond.selects RX7 yX7_hours yX7_hours, Cond.code yX7_hours cX7_hours 5 (some .int), Cond.methodLink RX7 83 yX7_hoursFault, Cond.instanceMethod yX7_hoursFault, Cond.selects RX7 yX7_hoursFault yX7_hoursFault, Cond.code yX7_hoursFault cX7_hoursFault 4 (some .int), Cond.methodLink RX7 86 yX7_putsHours, Cond.instanceMethod yX7_putsHours, Cond.selects RX7 yX7_putsHours yX7_putsHours, Cond.code yX7_putsHours cX7_putsHours 5 (some .int), Cond.methodLink RL 36 yX6_burn, Cond.instanceMethod yX6_burn, Cond.selects RX6 yX6_burn yX6_burn, Cond.code yX6_burn cX6_burn 2 (some .int), Cond.methodLink RX6 66 yX0_burnLetter, Cond.instanceMethod yX0_burnLetter, Cond.selects RX0 yX0_burnLetter yX0_burnLetter, Cond.code yX0_burnLetter cX0_burnLetter 2 (some .int)]
def wsL_law_r12 : List Cond := [Cond.methodLink RX0 98 yX0_isShut, Cond.instanceMethod yX0_isShut, Cond.selects RX0 yX0_isShut yX0_isShut, Cond.code yX0_isShut cX0_isShut 2 (some .boolean), Cond.methodLink RX0 101 yX0_heatNow, Cond.instanceMethod yX0_heatNow, Cond.selects RX0 yX0_heatNow yX0_heatNow, Cond.code yX0_heatNow cX0_heatNow 3 (some .int), Cond.fieldLink RX0 120 "MoodDrawers$Letters" "sentHeat" "[I", Cond.methodLink RX0 136 Lib.Math.max.name, Cond.static Lib.Math.max.name, Cond.code Lib.Math.max.name Lib.Math.max.code 2 (some .int), Cond.methodLink RL 39 yX7_burn, Cond.instanceMethod yX7_burn, Cond.selects RX7 yX7_burn yX7_burn, Cond.code yX7_burn cX7_burn 3 (some .int), Cond.methodLink RX7 89 yX7_burnFault, Cond.instanceMethod yX7_burnFault, Cond.selects RX7 yX7_burnFault yX7_burnFault, Cond.code yX7_burnFault cX7_burnFault 2 (some .int), Cond.methodLink RX7 92 yX7_burns, Cond.instanceMethod yX7_burns, Cond.selects RX7 yX7_burns yX7_burns, Cond.code yX7_burns cX7_burns 2 (some .int)]
def wsL_law_r13 : List Cond := [Cond.methodLink RX7 50 yX7_heat, Cond.instanceMethod yX7_heat, Cond.selects RX7 yX7_heat yX7_heat, Cond.code yX7_heat cX7_heat 3 (some .int), Cond.methodLink RL 40 yX6_pass, Cond.instanceMethod yX6_pass, Cond.selects RX6 yX6_pass yX6_pass, Cond.code yX6_pass cX6_pass 2 (some .int), Cond.methodLink RX6 69 yX0_passHours, Cond.instanceMethod yX0_passHours, Cond.selects RX0 yX0_passHours yX0_passHours, Cond.code yX0_passHours cX0_passHours 4 (some .int), Cond.methodLink RX0 105 yX0_hourOfDay, Cond.instanceMethod yX0_hourOfDay, Cond.selects RX0 yX0_hourOfDay yX0_hourOfDay, Cond.code yX0_hourOfDay cX0_hourOfDay 1 (some .int), Cond.methodLink RX0 108 yX1_turnKeysBy, Cond.instanceMethod yX1_turnKeysBy, Cond.selects RX1 yX1_turnKeysBy yX1_turnKeysBy, Cond.code yX1_turnKeysBy cX1_turnKeysBy 3 none, Cond.methodLink RX0 112 yX0_setThatWouldGo, Cond.instanceMethod yX0_setThatWouldGo, Cond.selects RX0 yX0_setThatWouldGo yX0_setThatWouldGo, Cond.code yX0_setThatWouldGo cX0_setThatWouldGo 5 (some .long)]
def wsL_law_r14 : List Cond := [Cond.methodLink RX0 128 yX3_lies, Cond.instanceMethod yX3_lies, Cond.selects RX3 yX3_lies yX3_lies, Cond.code yX3_lies cX3_lies 3 (some .boolean), Cond.methodLink RX0 132 yX0_readyDay, Cond.instanceMethod yX0_readyDay, Cond.selects RX0 yX0_readyDay yX0_readyDay, Cond.code yX0_readyDay cX0_readyDay 6 (some .int), Cond.constant RX0 135 (1000000), Cond.methodLink RX0 116 yX0_send, Cond.instanceMethod yX0_send, Cond.selects RX0 yX0_send yX0_send, Cond.code yX0_send cX0_send 4 (some .int), Cond.methodLink RX0 123 yJ13_bitCount_95d88, Cond.static yJ13_bitCount_95d88, Cond.initialized RJ13, Cond.code yJ13_bitCount_95d88 cJ13_bitCount_95d88 2 (some .int), Cond.constantLong RJ13 314 (6148914691236517205), Cond.constantLong RJ13 316 (3689348814741910323), Cond.constantLong RJ13 318 (1085102592571150095), Cond.methodLink RL 43 yX7_pass, Cond.instanceMethod yX7_pass, Cond.selects RX7 yX7_pass yX7_pass, Cond.code yX7_pass cX7_pass 3 (some .int)]
def wsL_law_r15 : List Cond := [Cond.methodLink RX7 95 yX7_passFault, Cond.instanceMethod yX7_passFault, Cond.selects RX7 yX7_passFault yX7_passFault, Cond.code yX7_passFault cX7_passFault 2 (some .int), Cond.methodLink RX7 98 yX7_passes, Cond.instanceMethod yX7_passes, Cond.selects RX7 yX7_passes yX7_passes, Cond.code yX7_passes cX7_passes 4 (some .int), Cond.methodLink RX7 67 yX7_hour, Cond.instanceMethod yX7_hour, Cond.selects RX7 yX7_hour yX7_hour, Cond.code yX7_hour cX7_hour 2 none, Cond.methodLink RX7 54 yX7_wouldGo, Cond.instanceMethod yX7_wouldGo, Cond.selects RX7 yX7_wouldGo yX7_wouldGo, Cond.code yX7_wouldGo cX7_wouldGo 4 (some .boolean), Cond.methodLink RL 44 yX6_ofLetter, Cond.instanceMethod yX6_ofLetter, Cond.selects RX6 yX6_ofLetter yX6_ofLetter, Cond.code yX6_ofLetter cX6_ofLetter 4 (some .int), Cond.fieldLink RX6 75 "MoodDrawers$Desk" "letters" "LMoodDrawers$Letters;", Cond.fieldLink RX6 85 "MoodDrawers$Letters" "mood" "[I", Cond.fieldLink RX6 89 "MoodDrawers$Letters" "heat" "[I", Cond.fieldLink RX6 95 "MoodDrawers$Letters" "writtenOn" "[I"]
def wsL_law_r16 : List Cond := [Cond.fieldLink RX6 98 "MoodDrawers$Letters" "how" "[I", Cond.fieldLink RX6 101 "MoodDrawers$Letters" "sentOn" "[I", Cond.fieldLink RX6 104 "MoodDrawers$Letters" "answered" "[I", Cond.methodLink RX6 79 yX3_isLetter, Cond.methodLink RX6 92 yX0_heatNow, Cond.methodLink RX6 107 yX5_ofSent, Cond.instanceMethod yX5_ofSent, Cond.selects RX5 yX5_ofSent yX5_ofSent, Cond.code yX5_ofSent cX5_ofSent 3 (some .int), Cond.methodLink RX5 15 yX5_workOut, Cond.instanceMethod yX5_workOut, Cond.selects RX5 yX5_workOut yX5_workOut, Cond.code yX5_workOut cX5_workOut 6 none, Cond.fieldLink RX5 19 "MoodDrawers$Desk" "letters" "LMoodDrawers$Letters;", Cond.fieldLink RX5 25 "MoodDrawers$Letters" "written" "I", Cond.fieldLink RX5 31 "MoodDrawers$Letters" "how" "[I", Cond.fieldLink RX5 38 "MoodDrawers$Letters" "answered" "[I", Cond.methodLink RX5 45 Lib.Math.max.name, Cond.methodLink RX5 34 yX0_heatNow, Cond.methodLink RX5 41 yX3_isLetter, Cond.methodLink RX6 111 yX3_answersTo, Cond.instanceMethod yX3_answersTo, Cond.selects RX3 yX3_answersTo yX3_answersTo, Cond.code yX3_answersTo cX3_answersTo 4 (some .int)]
def wsL_law_r17 : List Cond := [Cond.methodLink RX6 114 yX3_depthOf, Cond.instanceMethod yX3_depthOf, Cond.selects RX3 yX3_depthOf yX3_depthOf, Cond.code yX3_depthOf cX3_depthOf 4 (some .int), Cond.methodLink RX3 41 yX3_isLetter, Cond.methodLink RL 47 yX7_ofLetter, Cond.instanceMethod yX7_ofLetter, Cond.selects RX7 yX7_ofLetter yX7_ofLetter, Cond.code yX7_ofLetter cX7_ofLetter 3 (some .int), Cond.methodLink RX7 101 yX7_findRegrets, Cond.instanceMethod yX7_findRegrets, Cond.selects RX7 yX7_findRegrets yX7_findRegrets, Cond.code yX7_findRegrets cX7_findRegrets 3 none, Cond.methodLink RX7 104 yX7_answering, Cond.instanceMethod yX7_answering, Cond.selects RX7 yX7_answering yX7_answering, Cond.code yX7_answering cX7_answering 4 (some .int), Cond.methodLink RX7 107 yX7_depth, Cond.instanceMethod yX7_depth, Cond.selects RX7 yX7_depth yX7_depth, Cond.code yX7_depth cX7_depth 4 (some .int), Cond.methodLink RL 48 yX6_ofDrawer, Cond.instanceMethod yX6_ofDrawer, Cond.selects RX6 yX6_ofDrawer yX6_ofDrawer]
def wsL_law_r18 : List Cond := [Cond.code yX6_ofDrawer cX6_ofDrawer 4 (some .int), Cond.fieldLink RX6 120 "MoodDrawers$Desk" "drawers" "LMoodDrawers$Drawers;", Cond.fieldLink RX6 127 "MoodDrawers$Drawers" "locked" "[I", Cond.fieldLink RX6 132 "MoodDrawers$Drawers" "restDays" "[I", Cond.fieldLink RX6 135 "MoodDrawers$Drawers" "unlockHour" "[I", Cond.fieldLink RX6 138 "MoodDrawers$Drawers" "lockHour" "[I", Cond.methodLink RX6 117 yX6_isMood, Cond.methodLink RX6 124 yX3_ofMood, Cond.methodLink RX6 141 yX0_heatInDrawer, Cond.instanceMethod yX0_heatInDrawer, Cond.selects RX0 yX0_heatInDrawer yX0_heatInDrawer, Cond.code yX0_heatInDrawer cX0_heatInDrawer 4 (some .int), Cond.methodLink RL 51 yX7_ofDrawer, Cond.instanceMethod yX7_ofDrawer, Cond.selects RX7 yX7_ofDrawer yX7_ofDrawer, Cond.code yX7_ofDrawer cX7_ofDrawer 3 (some .int), Cond.methodLink RX7 110 yX7_heatIn, Cond.instanceMethod yX7_heatIn, Cond.selects RX7 yX7_heatIn yX7_heatIn, Cond.code yX7_heatIn cX7_heatIn 4 (some .int), Cond.methodLink RL 52 yX6_letters, Cond.instanceMethod yX6_letters, Cond.selects RX6 yX6_letters yX6_letters, Cond.code yX6_letters cX6_letters 2 (some .long)]
def wsL_law_r19 : List Cond := [Cond.constantLong RX6 152 (-2), Cond.methodLink RX6 144 yX3_setOf, Cond.instanceMethod yX3_setOf, Cond.selects RX3 yX3_setOf yX3_setOf, Cond.code yX3_setOf cX3_setOf 5 (some .long), Cond.methodLink RX6 148 yX0_setThatWouldGo, Cond.methodLink RL 56 yX7_letters, Cond.instanceMethod yX7_letters, Cond.selects RX7 yX7_letters yX7_letters, Cond.code yX7_letters cX7_letters 5 (some .long), Cond.constantLong RX7 113 (-2), Cond.methodLink RL 57 yX6_count, Cond.instanceMethod yX6_count, Cond.selects RX6 yX6_count yX6_count, Cond.code yX6_count cX6_count 2 (some .int), Cond.fieldLink RX6 161 "MoodDrawers$Letters" "written" "I", Cond.fieldLink RX6 174 "MoodDrawers$Desk" "settings" "[I", Cond.fieldLink RX6 177 "MoodDrawers$Pad" "length" "I", Cond.fieldLink RX6 180 "MoodDrawers$History" "kept" "I", Cond.methodLink RX6 154 yX0_today, Cond.methodLink RX6 158 yX0_hourOfDay, Cond.methodLink RX6 165 yJ13_bitCount_95d88, Cond.methodLink RX6 171 yX1_howManyLocked, Cond.instanceMethod yX1_howManyLocked]
def wsL_law_r20 : List Cond := [Cond.selects RX1 yX1_howManyLocked yX1_howManyLocked, Cond.code yX1_howManyLocked cX1_howManyLocked 3 (some .int), Cond.methodLink RL 60 yX7_count, Cond.instanceMethod yX7_count, Cond.selects RX7 yX7_count yX7_count, Cond.code yX7_count cX7_count 2 (some .int), Cond.fieldLink RX7 119 "MoodDrawersModel" "length" "I", Cond.methodLink RX7 115 yX7_locked, Cond.instanceMethod yX7_locked, Cond.selects RX7 yX7_locked yX7_locked, Cond.code yX7_locked cX7_locked 3 (some .int), Cond.methodLink RL 61 yX6_meanHeat, Cond.instanceMethod yX6_meanHeat, Cond.selects RX6 yX6_meanHeat yX6_meanHeat, Cond.code yX6_meanHeat cX6_meanHeat 2 (some .long), Cond.methodLink RX6 183 yX3_heatOfSent, Cond.instanceMethod yX3_heatOfSent, Cond.selects RX3 yX3_heatOfSent yX3_heatOfSent, Cond.code yX3_heatOfSent cX3_heatOfSent 3 (some .int), Cond.methodLink RX6 186 yX6_bitsOf, Cond.static yX6_bitsOf, Cond.code yX6_bitsOf cX6_bitsOf 9 (some .long), Cond.constantDouble RX6 266 (4611686018427387904), Cond.methodLink RL 65 yX7_meanHeat]
def wsL_law_r21 : List Cond := [Cond.instanceMethod yX7_meanHeat, Cond.selects RX7 yX7_meanHeat yX7_meanHeat, Cond.code yX7_meanHeat cX7_meanHeat 3 (some .long), Cond.methodLink RX7 134 yX7_bitsOfDouble, Cond.static yX7_bitsOfDouble, Cond.code yX7_bitsOfDouble cX7_bitsOfDouble 6 (some .long), Cond.constantLong RX7 124 (1023), Cond.constantDouble RX7 126 (4611686018427387904), Cond.constantDouble RX7 128 (4602678819172646912), Cond.constantLong RX7 130 (4503599627370496), Cond.constantDouble RX7 132 (4841369599423283200), Cond.methodLink RL 66 yX6_share, Cond.instanceMethod yX6_share, Cond.selects RX6 yX6_share yX6_share, Cond.code yX6_share cX6_share 4 (some .int), Cond.methodLink RL 70 yX7_share, Cond.instanceMethod yX7_share, Cond.selects RX7 yX7_share yX7_share, Cond.code yX7_share cX7_share 1 (some .int), Cond.methodLink RX7 138 yX7_bitsOf, Cond.static yX7_bitsOf, Cond.code yX7_bitsOf cX7_bitsOf 3 (some .int), Cond.constant RX7 122 (8388608), Cond.constantFloat RX7 123 (1258291200)]
def wsL_law_r22 : List Cond := [Cond.methodLink RL 71 yX6_goesIn, Cond.instanceMethod yX6_goesIn, Cond.selects RX6 yX6_goesIn yX6_goesIn, Cond.code yX6_goesIn cX6_goesIn 3 (some .int), Cond.methodLink RX6 190 yX0_hoursTillSent, Cond.instanceMethod yX0_hoursTillSent, Cond.selects RX0 yX0_hoursTillSent yX0_hoursTillSent, Cond.code yX0_hoursTillSent cX0_hoursTillSent 8 (some .int), Cond.methodLink RX0 141 yJ9_floorMod_7cf53, Cond.static yJ9_floorMod_7cf53, Cond.initialized RJ9, Cond.code yJ9_floorMod_7cf53 cJ9_floorMod_7cf53 3 (some .int), Cond.methodLink RX0 144 yX1_isLockedAt, Cond.instanceMethod yX1_isLockedAt, Cond.selects RX1 yX1_isLockedAt yX1_isLockedAt, Cond.code yX1_isLockedAt cX1_isLockedAt 6 (some .boolean), Cond.methodLink RX1 34 Lib.Math.min.name, Cond.methodLink RX1 28 yJ9_floorMod_7cf53, Cond.methodLink RL 74 yX7_goesIn, Cond.instanceMethod yX7_goesIn, Cond.selects RX7 yX7_goesIn yX7_goesIn, Cond.code yX7_goesIn cX7_goesIn 4 (some .int), Cond.methodLink RX7 142 yX7_putAside, Cond.instanceMethod yX7_putAside]
def wsL_law_r23 : List Cond := [Cond.selects RX7 yX7_putAside yX7_putAside, Cond.code yX7_putAside cX7_putAside 2 none, Cond.methodLink RX7 145 yX7_putBack, Cond.instanceMethod yX7_putBack, Cond.selects RX7 yX7_putBack yX7_putBack, Cond.code yX7_putBack cX7_putBack 2 none, Cond.methodLink RL 75 yX6_bestPost, Cond.instanceMethod yX6_bestPost, Cond.selects RX6 yX6_bestPost yX6_bestPost, Cond.code yX6_bestPost cX6_bestPost 7 (some .int), Cond.methodLink RX6 193 yX0_sentWithin, Cond.instanceMethod yX0_sentWithin, Cond.selects RX0 yX0_sentWithin yX0_sentWithin, Cond.code yX0_sentWithin cX0_sentWithin 5 (some .int), Cond.methodLink RX0 148 yX0_hoursTillSent, Cond.methodLink RL 78 yX7_bestPost, Cond.instanceMethod yX7_bestPost, Cond.selects RX7 yX7_bestPost yX7_bestPost, Cond.code yX7_bestPost cX7_bestPost 7 (some .int), Cond.methodLink RL 79 yX6_mostRegretted, Cond.instanceMethod yX6_mostRegretted, Cond.selects RX6 yX6_mostRegretted yX6_mostRegretted, Cond.code yX6_mostRegretted cX6_mostRegretted 1 (some .int), Cond.methodLink RX6 196 yX5_greatest]
def wsL_law_r24 : List Cond := [Cond.instanceMethod yX5_greatest, Cond.selects RX5 yX5_greatest yX5_greatest, Cond.code yX5_greatest cX5_greatest 5 (some .int), Cond.methodLink RL 82 yX7_mostRegretted, Cond.instanceMethod yX7_mostRegretted, Cond.selects RX7 yX7_mostRegretted yX7_mostRegretted, Cond.code yX7_mostRegretted cX7_mostRegretted 4 (some .int), Cond.methodLink RL 83 yX6_ifSent, Cond.instanceMethod yX6_ifSent, Cond.selects RX6 yX6_ifSent yX6_ifSent, Cond.code yX6_ifSent cX6_ifSent 4 (some .int), Cond.methodLink RX6 200 yX5_withSent, Cond.instanceMethod yX5_withSent, Cond.selects RX5 yX5_withSent yX5_withSent, Cond.code yX5_withSent cX5_withSent 4 (some .int), Cond.methodLink RL 86 yX7_ifSent, Cond.instanceMethod yX7_ifSent, Cond.selects RX7 yX7_ifSent yX7_ifSent, Cond.code yX7_ifSent cX7_ifSent 4 (some .int), Cond.methodLink RX7 148 yX7_ofLetter, Cond.methodLink RL 89 yX6_put, Cond.instanceMethod yX6_put, Cond.selects RX6 yX6_put yX6_put, Cond.code yX6_put cX6_put 5 (some .int)]
def wsL_law_r25 : List Cond := [Cond.constantLong RX6 207 (255), Cond.methodLink RX6 204 yX6_charactersIn, Cond.static yX6_charactersIn, Cond.code yX6_charactersIn cX6_charactersIn 7 (some .int), Cond.constantLong RX6 262 (33), Cond.constantLong RX6 264 (126), Cond.methodLink RX6 209 yX4_append, Cond.instanceMethod yX4_append, Cond.selects RX4 yX4_append yX4_append, Cond.code yX4_append cX4_append 2 none, Cond.fieldLink RX4 15 "MoodDrawers$Pad" "length" "I", Cond.methodLink RL 93 yX7_put, Cond.instanceMethod yX7_put, Cond.selects RX7 yX7_put yX7_put, Cond.code yX7_put cX7_put 8 (some .int), Cond.constantLong RX7 151 (255), Cond.methodLink RL 94 yX6_wipe, Cond.instanceMethod yX6_wipe, Cond.selects RX6 yX6_wipe yX6_wipe, Cond.code yX6_wipe cX6_wipe 2 (some .int), Cond.methodLink RL 97 yX7_wipe, Cond.instanceMethod yX7_wipe, Cond.selects RX7 yX7_wipe yX7_wipe, Cond.code yX7_wipe cX7_wipe 2 (some .int)]
def wsL_law_r26 : List Cond := [Cond.methodLink RL 98 yX6_fault, Cond.instanceMethod yX6_fault, Cond.selects RX6 yX6_fault yX6_fault, Cond.code yX6_fault cX6_fault 1 (some .int), Cond.methodLink RX6 213 yX4_faultIndex, Cond.instanceMethod yX4_faultIndex, Cond.selects RX4 yX4_faultIndex yX4_faultIndex, Cond.code yX4_faultIndex cX4_faultIndex 2 (some .int), Cond.fieldLink RX4 19 "MoodDrawers$Pad" "at" "I", Cond.methodLink RX4 22 yX4_readOrder, Cond.instanceMethod yX4_readOrder, Cond.selects RX4 yX4_readOrder yX4_readOrder, Cond.code yX4_readOrder cX4_readOrder 1 (some .boolean), Cond.fieldLink RX4 34 "MoodDrawers$Pad" "kind" "I", Cond.fieldLink RX4 37 "MoodDrawers$Pad" "second" "I", Cond.methodLink RX4 30 yX4_next, Cond.instanceMethod yX4_next, Cond.selects RX4 yX4_next yX4_next, Cond.code yX4_next cX4_next 1 (some .char), Cond.methodLink RX4 26 yX4_take, Cond.instanceMethod yX4_take, Cond.selects RX4 yX4_take yX4_take, Cond.code yX4_take cX4_take 2 (some .boolean), Cond.methodLink RX4 40 yX4_readMood]
def wsL_law_r27 : List Cond := [Cond.instanceMethod yX4_readMood, Cond.selects RX4 yX4_readMood yX4_readMood, Cond.code yX4_readMood cX4_readMood 1 (some .boolean), Cond.fieldLink RX4 49 "MoodDrawers$Pad" "mood" "I", Cond.methodLink RX4 43 yX4_readFirst, Cond.instanceMethod yX4_readFirst, Cond.selects RX4 yX4_readFirst yX4_readFirst, Cond.code yX4_readFirst cX4_readFirst 1 (some .boolean), Cond.fieldLink RX4 60 "MoodDrawers$Pad" "first" "I", Cond.methodLink RX4 56 yX4_readNumber, Cond.instanceMethod yX4_readNumber, Cond.selects RX4 yX4_readNumber yX4_readNumber, Cond.code yX4_readNumber cX4_readNumber 2 (some .int), Cond.methodLink RX4 63 yX4_isDigit, Cond.static yX4_isDigit, Cond.code yX4_isDigit cX4_isDigit 1 (some .boolean), Cond.methodLink RX4 46 yX4_readSecond, Cond.instanceMethod yX4_readSecond, Cond.selects RX4 yX4_readSecond yX4_readSecond, Cond.code yX4_readSecond cX4_readSecond 1 (some .boolean), Cond.methodLink RL 101 yX7_fault, Cond.instanceMethod yX7_fault, Cond.selects RX7 yX7_fault yX7_fault, Cond.code yX7_fault cX7_fault 2 (some .int)]
def wsL_law_r28 : List Cond := [Cond.fieldLink RX7 156 "MoodDrawersModel" "isWrong" "Z", Cond.fieldLink RX7 153 "MoodDrawersModel" "place" "I", Cond.methodLink RX7 189 yX7_go, Cond.instanceMethod yX7_go, Cond.selects RX7 yX7_go yX7_go, Cond.code yX7_go cX7_go 6 (some .int), Cond.methodLink RX7 182 yX7_order, Cond.instanceMethod yX7_order, Cond.selects RX7 yX7_order yX7_order, Cond.code yX7_order cX7_order 4 none, Cond.fieldLink RX7 167 "MoodDrawersModel" "letter" "I", Cond.fieldLink RX7 173 "MoodDrawersModel" "one" "I", Cond.fieldLink RX7 176 "MoodDrawersModel" "two" "I", Cond.fieldLink RX7 179 "MoodDrawersModel" "three" "I", Cond.methodLink RX7 160 yX7_sign, Cond.instanceMethod yX7_sign, Cond.selects RX7 yX7_sign yX7_sign, Cond.code yX7_sign cX7_sign 4 (some .int), Cond.methodLink RX7 170 yX7_number, Cond.instanceMethod yX7_number, Cond.selects RX7 yX7_number yX7_number, Cond.code yX7_number cX7_number 2 (some .int), Cond.methodLink RX7 163 yX7_isNext, Cond.instanceMethod yX7_isNext]
def wsL_law_r29 : List Cond := [Cond.selects RX7 yX7_isNext yX7_isNext, Cond.code yX7_isNext cX7_isNext 3 (some .boolean), Cond.methodLink RX7 185 yX7_does, Cond.instanceMethod yX7_does, Cond.selects RX7 yX7_does yX7_does, Cond.code yX7_does cX7_does 4 (some .boolean), Cond.methodLink RL 102 yX6_carryOut, Cond.instanceMethod yX6_carryOut, Cond.selects RX6 yX6_carryOut yX6_carryOut, Cond.code yX6_carryOut cX6_carryOut 2 (some .int), Cond.methodLink RX6 216 yX6_carryOutOrders, Cond.instanceMethod yX6_carryOutOrders, Cond.selects RX6 yX6_carryOutOrders yX6_carryOutOrders, Cond.code yX6_carryOutOrders cX6_carryOutOrders 2 (some .int), Cond.fieldLink RX6 226 "MoodDrawers$Pad" "at" "I", Cond.methodLink RX6 229 yX4_readOrder, Cond.methodLink RX6 233 yX6_carryOutOrder, Cond.instanceMethod yX6_carryOutOrder, Cond.selects RX6 yX6_carryOutOrder yX6_carryOutOrder, Cond.code yX6_carryOutOrder cX6_carryOutOrder 1 (some .int), Cond.fieldLink RX6 240 "MoodDrawers$Pad" "kind" "I", Cond.fieldLink RX6 243 "MoodDrawers$Pad" "mood" "I", Cond.fieldLink RX6 245 "MoodDrawers$Pad" "first" "I", Cond.fieldLink RX6 248 "MoodDrawers$Pad" "second" "I"]
def wsL_law_r30 : List Cond := [Cond.methodLink RX6 236 yX4_take, Cond.methodLink RL 105 yX7_carryOut, Cond.instanceMethod yX7_carryOut, Cond.selects RX7 yX7_carryOut yX7_carryOut, Cond.code yX7_carryOut cX7_carryOut 3 (some .int), Cond.methodLink RL 106 yX6_undo, Cond.instanceMethod yX6_undo, Cond.selects RX6 yX6_undo yX6_undo, Cond.code yX6_undo cX6_undo 1 (some .int), Cond.methodLink RX6 219 yX2_takeBack, Cond.instanceMethod yX2_takeBack, Cond.selects RX2 yX2_takeBack yX2_takeBack, Cond.code yX2_takeBack cX2_takeBack 3 (some .boolean), Cond.methodLink RL 109 yX7_undo, Cond.instanceMethod yX7_undo, Cond.selects RX7 yX7_undo yX7_undo, Cond.code yX7_undo cX7_undo 2 (some .int), Cond.methodLink RL 110 yX6_save, Cond.instanceMethod yX6_save, Cond.selects RX6 yX6_save yX6_save, Cond.code yX6_save cX6_save 3 (some .int), Cond.methodLink RX6 223 yX0_copyFrom, Cond.methodLink RL 113 yX7_save, Cond.instanceMethod yX7_save]
def wsL_law_r31 : List Cond := [Cond.selects RX7 yX7_save yX7_save, Cond.code yX7_save cX7_save 3 (some .int), Cond.methodLink RL 114 yX6_restore, Cond.instanceMethod yX6_restore, Cond.selects RX6 yX6_restore yX6_restore, Cond.code yX6_restore cX6_restore 3 (some .int), Cond.methodLink RL 117 yX7_restore, Cond.instanceMethod yX7_restore, Cond.selects RX7 yX7_restore yX7_restore, Cond.code yX7_restore cX7_restore 3 (some .int)]
def wsL_law : List Cond := (wsL_law_r1 ++ (wsL_law_r2 ++ (wsL_law_r3 ++ (wsL_law_r4 ++ (wsL_law_r5 ++ (wsL_law_r6 ++ (wsL_law_r7 ++ (wsL_law_r8 ++ (wsL_law_r9 ++ (wsL_law_r10 ++ (wsL_law_r11 ++ (wsL_law_r12 ++ (wsL_law_r13 ++ (wsL_law_r14 ++ (wsL_law_r15 ++ (wsL_law_r16 ++ (wsL_law_r17 ++ (wsL_law_r18 ++ (wsL_law_r19 ++ (wsL_law_r20 ++ (wsL_law_r21 ++ (wsL_law_r22 ++ (wsL_law_r23 ++ (wsL_law_r24 ++ (wsL_law_r25 ++ (wsL_law_r26 ++ (wsL_law_r27 ++ (wsL_law_r28 ++ (wsL_law_r29 ++ (wsL_law_r30 ++ wsL_law_r31)))))))))))))))))))))))))))))) ++ wsX60 ++ wsX70 ++ wsX00 ++ wsX50 ++ wsX40 ++ wsX20 ++ wsX10 ++ wsX30 ++ ([] : List Cond)
abbrev vwCl : List vw_C := [(RX0, TX0, 4), (RX1, TX1, 4), (RX2, TX2, 2), (RX3, TX3, 8), (RX4, TX4, 7), (RX5, TX5, 1), (RX6, TX6, 5), (RX7, TX7, 16)]
end
section
set_option maxRecDepth 20000 in
theorem ggX0_init_X1_init : GoodIn wsX0_init wsX1_init := goodIn_r _ [15, 16, 2, 3, 4, 17, 18, 19, 20, 35, 36, 37, 38] (by decide +kernel) (by decide +kernel)
set_option maxRecDepth 20000 in
theorem gX0_init_X1_init_n17 : GoodIn wsX0_init (wsX1_init) := ggX0_init_X1_init
set_option maxRecDepth 20000 in
theorem ggX0_init_X3_init : GoodIn wsX0_init wsX3_init := goodIn_r _ [22, 23, 2, 3, 4, 24, 25, 26, 27, 28, 29, 30, 39, 40, 41, 42, 43, 44, 45, 46] (by decide +kernel) (by decide +kernel)
set_option maxRecDepth 20000 in
theorem gX0_init_X3_init_n24 : GoodIn wsX0_init (wsX3_init) := ggX0_init_X3_init
theorem dX0_init_0 : decode cX0_init 0 = .ok (.aload_n 0, 1) := by decide +kernel
theorem dX0_init_1 : decode cX0_init 1 = .ok (.invokespecial 3, 3) := by decide +kernel
theorem dX0_init_4 : decode cX0_init 4 = .ok (.aload_n 0, 1) := by decide +kernel
theorem dX0_init_5 : decode cX0_init 5 = .ok (.iconst 3, 1) := by decide +kernel
theorem dX0_init_6 : decode cX0_init 6 = .ok (.newarray .int, 2) := by decide +kernel
theorem dX0_init_8 : decode cX0_init 8 = .ok (.dup, 1) := by decide +kernel
theorem dX0_init_9 : decode cX0_init 9 = .ok (.iconst 0, 1) := by decide +kernel
theorem dX0_init_10 : decode cX0_init 10 = .ok (.bipush 17, 2) := by decide +kernel
theorem dX0_init_12 : decode cX0_init 12 = .ok (.iastore, 1) := by decide +kernel
theorem dX0_init_13 : decode cX0_init 13 = .ok (.dup, 1) := by decide +kernel
theorem dX0_init_14 : decode cX0_init 14 = .ok (.iconst 1, 1) := by decide +kernel
theorem dX0_init_15 : decode cX0_init 15 = .ok (.bipush 30, 2) := by decide +kernel
theorem dX0_init_17 : decode cX0_init 17 = .ok (.iastore, 1) := by decide +kernel
theorem dX0_init_18 : decode cX0_init 18 = .ok (.dup, 1) := by decide +kernel
theorem dX0_init_19 : decode cX0_init 19 = .ok (.iconst 2, 1) := by decide +kernel
theorem dX0_init_20 : decode cX0_init 20 = .ok (.iconst 5, 1) := by decide +kernel
theorem dX0_init_21 : decode cX0_init 21 = .ok (.iastore, 1) := by decide +kernel
theorem dX0_init_22 : decode cX0_init 22 = .ok (.putfield 9, 3) := by decide +kernel
theorem dX0_init_25 : decode cX0_init 25 = .ok (.aload_n 0, 1) := by decide +kernel
theorem dX0_init_26 : decode cX0_init 26 = .ok (.new 15, 3) := by decide +kernel
theorem dX0_init_29 : decode cX0_init 29 = .ok (.dup, 1) := by decide +kernel
theorem dX0_init_30 : decode cX0_init 30 = .ok (.invokespecial 17, 3) := by decide +kernel
theorem dX0_init_33 : decode cX0_init 33 = .ok (.putfield 18, 3) := by decide +kernel
theorem dX0_init_36 : decode cX0_init 36 = .ok (.aload_n 0, 1) := by decide +kernel
theorem dX0_init_37 : decode cX0_init 37 = .ok (.new 22, 3) := by decide +kernel
theorem dX0_init_40 : decode cX0_init 40 = .ok (.dup, 1) := by decide +kernel
theorem dX0_init_41 : decode cX0_init 41 = .ok (.invokespecial 24, 3) := by decide +kernel
theorem dX0_init_44 : decode cX0_init 44 = .ok (.putfield 25, 3) := by decide +kernel
theorem dX0_init_47 : decode cX0_init 47 = .ok (.return_, 1) := by decide +kernel
set_option maxRecDepth 20000 in
theorem ggX0_copyFrom_X6_copy : GoodIn wsX0_copyFrom wsX6_copy := goodIn_r _ [7, 8, 9, 10, 11, 12, 13, 14, 15] (by decide +kernel) (by decide +kernel)
set_option maxRecDepth 20000 in
theorem gX0_copyFrom_X6_copy_n29 : GoodIn wsX0_copyFrom (wsX6_copy) := ggX0_copyFrom_X6_copy
set_option maxRecDepth 20000 in
theorem ggX0_copyFrom_X1_copyFrom : GoodIn wsX0_copyFrom wsX1_copyFrom := goodIn_r _ [20, 21, 22, 23, 24, 5, 6, 7, 8, 9, 10, 11, 12, 13, 14, 15, 42, 43, 44, 45] (by decide +kernel) (by decide +kernel)
set_option maxRecDepth 20000 in
theorem gX0_copyFrom_X1_copyFrom : GoodIn wsX0_copyFrom (wsV RX0 37 RX1 yX1_copyFrom wsX1_copyFrom) := goodIn_app (goodIn_of _ (by decide +kernel)) ggX0_copyFrom_X1_copyFrom
set_option maxRecDepth 20000 in
theorem ggX0_copyFrom_X3_copyFrom : GoodIn wsX0_copyFrom wsX3_copyFrom := goodIn_r _ [29, 30, 31, 32, 33, 34, 35, 36, 37, 5, 6, 7, 8, 9, 10, 11, 12, 13, 14, 15, 46, 47, 48, 49, 50, 51, 52, 53] (by decide +kernel) (by decide +kernel)
set_option maxRecDepth 20000 in
theorem gX0_copyFrom_X3_copyFrom : GoodIn wsX0_copyFrom (wsV RX0 41 RX3 yX3_copyFrom wsX3_copyFrom) := goodIn_app (goodIn_of _ (by decide +kernel)) ggX0_copyFrom_X3_copyFrom
theorem dX0_copyFrom_0 : decode cX0_copyFrom 0 = .ok (.aload_n 1, 1) := by decide +kernel
theorem dX0_copyFrom_1 : decode cX0_copyFrom 1 = .ok (.getfield 9, 3) := by decide +kernel
theorem dX0_copyFrom_4 : decode cX0_copyFrom 4 = .ok (.aload_n 0, 1) := by decide +kernel
theorem dX0_copyFrom_5 : decode cX0_copyFrom 5 = .ok (.getfield 9, 3) := by decide +kernel
theorem dX0_copyFrom_8 : decode cX0_copyFrom 8 = .ok (.invokestatic 29, 3) := by decide +kernel
theorem dX0_copyFrom_11 : decode cX0_copyFrom 11 = .ok (.aload_n 0, 1) := by decide +kernel
theorem dX0_copyFrom_12 : decode cX0_copyFrom 12 = .ok (.aload_n 1, 1) := by decide +kernel
theorem dX0_copyFrom_13 : decode cX0_copyFrom 13 = .ok (.getfield 33, 3) := by decide +kernel
theorem dX0_copyFrom_16 : decode cX0_copyFrom 16 = .ok (.putfield 33, 3) := by decide +kernel
theorem dX0_copyFrom_19 : decode cX0_copyFrom 19 = .ok (.aload_n 0, 1) := by decide +kernel
theorem dX0_copyFrom_20 : decode cX0_copyFrom 20 = .ok (.getfield 18, 3) := by decide +kernel
theorem dX0_copyFrom_23 : decode cX0_copyFrom 23 = .ok (.aload_n 1, 1) := by decide +kernel
theorem dX0_copyFrom_24 : decode cX0_copyFrom 24 = .ok (.getfield 18, 3) := by decide +kernel
theorem dX0_copyFrom_27 : decode cX0_copyFrom 27 = .ok (.invokevirtual 37, 3) := by decide +kernel
theorem dX0_copyFrom_30 : decode cX0_copyFrom 30 = .ok (.aload_n 0, 1) := by decide +kernel
theorem dX0_copyFrom_31 : decode cX0_copyFrom 31 = .ok (.getfield 25, 3) := by decide +kernel
theorem dX0_copyFrom_34 : decode cX0_copyFrom 34 = .ok (.aload_n 1, 1) := by decide +kernel
theorem dX0_copyFrom_35 : decode cX0_copyFrom 35 = .ok (.getfield 25, 3) := by decide +kernel
theorem dX0_copyFrom_38 : decode cX0_copyFrom 38 = .ok (.invokevirtual 41, 3) := by decide +kernel
theorem dX0_copyFrom_41 : decode cX0_copyFrom 41 = .ok (.return_, 1) := by decide +kernel
theorem dX0_today_0 : decode cX0_today 0 = .ok (.aload_n 0, 1) := by decide +kernel
theorem dX0_today_1 : decode cX0_today 1 = .ok (.getfield 33, 3) := by decide +kernel
theorem dX0_today_4 : decode cX0_today 4 = .ok (.bipush 24, 2) := by decide +kernel
theorem dX0_today_6 : decode cX0_today 6 = .ok (.idiv, 1) := by decide +kernel
theorem dX0_today_7 : decode cX0_today 7 = .ok (.ireturn, 1) := by decide +kernel
theorem dX0_hourOfDay_0 : decode cX0_hourOfDay 0 = .ok (.aload_n 0, 1) := by decide +kernel
theorem dX0_hourOfDay_1 : decode cX0_hourOfDay 1 = .ok (.getfield 33, 3) := by decide +kernel
theorem dX0_hourOfDay_4 : decode cX0_hourOfDay 4 = .ok (.bipush 24, 2) := by decide +kernel
theorem dX0_hourOfDay_6 : decode cX0_hourOfDay 6 = .ok (.irem, 1) := by decide +kernel
theorem dX0_hourOfDay_7 : decode cX0_hourOfDay 7 = .ok (.ireturn, 1) := by decide +kernel
theorem dX0_changeSetting_0 : decode cX0_changeSetting 0 = .ok (.iload_n 1, 1) := by decide +kernel
theorem dX0_changeSetting_1 : decode cX0_changeSetting 1 = .ok (.ifCond .lt 21, 3) := by decide +kernel
theorem dX0_changeSetting_4 : decode cX0_changeSetting 4 = .ok (.iload_n 1, 1) := by decide +kernel
theorem dX0_changeSetting_5 : decode cX0_changeSetting 5 = .ok (.iconst 2, 1) := by decide +kernel
theorem dX0_changeSetting_6 : decode cX0_changeSetting 6 = .ok (.if_icmp .gt 16, 3) := by decide +kernel
theorem dX0_changeSetting_9 : decode cX0_changeSetting 9 = .ok (.iload_n 2, 1) := by decide +kernel
theorem dX0_changeSetting_10 : decode cX0_changeSetting 10 = .ok (.ifCond .lt 12, 3) := by decide +kernel
theorem dX0_changeSetting_13 : decode cX0_changeSetting 13 = .ok (.iload_n 2, 1) := by decide +kernel
theorem dX0_changeSetting_14 : decode cX0_changeSetting 14 = .ok (.getstatic 44, 3) := by decide +kernel
theorem dX0_changeSetting_17 : decode cX0_changeSetting 17 = .ok (.iload_n 1, 1) := by decide +kernel
theorem dX0_changeSetting_18 : decode cX0_changeSetting 18 = .ok (.iaload, 1) := by decide +kernel
theorem dX0_changeSetting_19 : decode cX0_changeSetting 19 = .ok (.if_icmp .le 6, 3) := by decide +kernel
theorem dX0_changeSetting_22 : decode cX0_changeSetting 22 = .ok (.bipush (-2), 2) := by decide +kernel
theorem dX0_changeSetting_24 : decode cX0_changeSetting 24 = .ok (.ireturn, 1) := by decide +kernel
theorem dX0_changeSetting_25 : decode cX0_changeSetting 25 = .ok (.aload_n 0, 1) := by decide +kernel
theorem dX0_changeSetting_26 : decode cX0_changeSetting 26 = .ok (.getfield 9, 3) := by decide +kernel
theorem dX0_changeSetting_29 : decode cX0_changeSetting 29 = .ok (.iload_n 1, 1) := by decide +kernel
theorem dX0_changeSetting_30 : decode cX0_changeSetting 30 = .ok (.iaload, 1) := by decide +kernel
theorem dX0_changeSetting_31 : decode cX0_changeSetting 31 = .ok (.istore_n 3, 1) := by decide +kernel
theorem dX0_changeSetting_32 : decode cX0_changeSetting 32 = .ok (.aload_n 0, 1) := by decide +kernel
theorem dX0_changeSetting_33 : decode cX0_changeSetting 33 = .ok (.getfield 9, 3) := by decide +kernel
theorem dX0_changeSetting_36 : decode cX0_changeSetting 36 = .ok (.iload_n 1, 1) := by decide +kernel
theorem dX0_changeSetting_37 : decode cX0_changeSetting 37 = .ok (.iload_n 2, 1) := by decide +kernel
theorem dX0_changeSetting_38 : decode cX0_changeSetting 38 = .ok (.iastore, 1) := by decide +kernel
theorem dX0_changeSetting_39 : decode cX0_changeSetting 39 = .ok (.iload_n 3, 1) := by decide +kernel
theorem dX0_changeSetting_40 : decode cX0_changeSetting 40 = .ok (.ireturn, 1) := by decide +kernel
set_option maxRecDepth 20000 in
theorem ggX0_writeLetter_X6_isMood : GoodIn wsX0_writeLetter wsX6_isMood := goodIn_r _ [11] (by decide +kernel) (by decide +kernel)
set_option maxRecDepth 20000 in
theorem gX0_writeLetter_X6_isMood_n47 : GoodIn wsX0_writeLetter (wsX6_isMood) := ggX0_writeLetter_X6_isMood
set_option maxRecDepth 20000 in
theorem ggX0_writeLetter_X3_isLetter : GoodIn wsX0_writeLetter wsX3_isLetter := goodIn_r _ [16, 17, 34, 35, 36, 37, 38, 39, 40, 41] (by decide +kernel) (by decide +kernel)
set_option maxRecDepth 20000 in
theorem gX0_writeLetter_X3_isLetter : GoodIn wsX0_writeLetter (wsV RX0 51 RX3 yX3_isLetter wsX3_isLetter) := goodIn_app (goodIn_of _ (by decide +kernel)) ggX0_writeLetter_X3_isLetter
set_option maxRecDepth 20000 in
theorem ggX0_writeLetter_X3_ofMood : GoodIn wsX0_writeLetter wsX3_ofMood := goodIn_r _ [21, 17, 22, 23, 34, 35, 36, 37, 38, 39, 40, 41] (by decide +kernel) (by decide +kernel)
set_option maxRecDepth 20000 in
theorem gX0_writeLetter_X3_ofMood : GoodIn wsX0_writeLetter (wsV RX0 57 RX3 yX3_ofMood wsX3_ofMood) := goodIn_app (goodIn_of _ (by decide +kernel)) ggX0_writeLetter_X3_ofMood
set_option maxRecDepth 20000 in
theorem ggX0_writeLetter_X0_today : GoodIn wsX0_writeLetter wsX0_today := goodIn_r _ [28, 29, 30, 31, 32, 33] (by decide +kernel) (by decide +kernel)
set_option maxRecDepth 20000 in
theorem gX0_writeLetter_X0_today : GoodIn wsX0_writeLetter (wsV RX0 73 RX0 yX0_today wsX0_today) := goodIn_app (goodIn_of _ (by decide +kernel)) ggX0_writeLetter_X0_today
theorem dX0_writeLetter_0 : decode cX0_writeLetter 0 = .ok (.iload_n 1, 1) := by decide +kernel
theorem dX0_writeLetter_1 : decode cX0_writeLetter 1 = .ok (.invokestatic 47, 3) := by decide +kernel
theorem dX0_writeLetter_4 : decode cX0_writeLetter 4 = .ok (.ifCond .eq 20, 3) := by decide +kernel
theorem dX0_writeLetter_7 : decode cX0_writeLetter 7 = .ok (.iload_n 3, 1) := by decide +kernel
theorem dX0_writeLetter_8 : decode cX0_writeLetter 8 = .ok (.bipush (-6), 2) := by decide +kernel
theorem dX0_writeLetter_10 : decode cX0_writeLetter 10 = .ok (.if_icmp .eq 16, 3) := by decide +kernel
theorem dX0_writeLetter_13 : decode cX0_writeLetter 13 = .ok (.aload_n 0, 1) := by decide +kernel
theorem dX0_writeLetter_14 : decode cX0_writeLetter 14 = .ok (.getfield 25, 3) := by decide +kernel
theorem dX0_writeLetter_17 : decode cX0_writeLetter 17 = .ok (.iload_n 3, 1) := by decide +kernel
theorem dX0_writeLetter_18 : decode cX0_writeLetter 18 = .ok (.invokevirtual 51, 3) := by decide +kernel
theorem dX0_writeLetter_21 : decode cX0_writeLetter 21 = .ok (.ifCond .ne 5, 3) := by decide +kernel
theorem dX0_writeLetter_24 : decode cX0_writeLetter 24 = .ok (.iconst (-1), 1) := by decide +kernel
theorem dX0_writeLetter_25 : decode cX0_writeLetter 25 = .ok (.ireturn, 1) := by decide +kernel
theorem dX0_writeLetter_26 : decode cX0_writeLetter 26 = .ok (.iload_n 2, 1) := by decide +kernel
theorem dX0_writeLetter_27 : decode cX0_writeLetter 27 = .ok (.ifCond .lt 9, 3) := by decide +kernel
theorem dX0_writeLetter_30 : decode cX0_writeLetter 30 = .ok (.iload_n 2, 1) := by decide +kernel
theorem dX0_writeLetter_31 : decode cX0_writeLetter 31 = .ok (.bipush 99, 2) := by decide +kernel
theorem dX0_writeLetter_33 : decode cX0_writeLetter 33 = .ok (.if_icmp .le 6, 3) := by decide +kernel
theorem dX0_writeLetter_36 : decode cX0_writeLetter 36 = .ok (.bipush (-2), 2) := by decide +kernel
theorem dX0_writeLetter_38 : decode cX0_writeLetter 38 = .ok (.ireturn, 1) := by decide +kernel
theorem dX0_writeLetter_39 : decode cX0_writeLetter 39 = .ok (.aload_n 0, 1) := by decide +kernel
theorem dX0_writeLetter_40 : decode cX0_writeLetter 40 = .ok (.getfield 25, 3) := by decide +kernel
theorem dX0_writeLetter_43 : decode cX0_writeLetter 43 = .ok (.getfield 54, 3) := by decide +kernel
theorem dX0_writeLetter_46 : decode cX0_writeLetter 46 = .ok (.istore 4, 2) := by decide +kernel
theorem dX0_writeLetter_48 : decode cX0_writeLetter 48 = .ok (.iload 4, 2) := by decide +kernel
theorem dX0_writeLetter_50 : decode cX0_writeLetter 50 = .ok (.bipush 30, 2) := by decide +kernel
theorem dX0_writeLetter_52 : decode cX0_writeLetter 52 = .ok (.if_icmp .ge 17, 3) := by decide +kernel
theorem dX0_writeLetter_55 : decode cX0_writeLetter 55 = .ok (.aload_n 0, 1) := by decide +kernel
theorem dX0_writeLetter_56 : decode cX0_writeLetter 56 = .ok (.getfield 25, 3) := by decide +kernel
theorem dX0_writeLetter_59 : decode cX0_writeLetter 59 = .ok (.iload_n 1, 1) := by decide +kernel
theorem dX0_writeLetter_60 : decode cX0_writeLetter 60 = .ok (.iconst 0, 1) := by decide +kernel
theorem dX0_writeLetter_61 : decode cX0_writeLetter 61 = .ok (.invokevirtual 57, 3) := by decide +kernel
theorem dX0_writeLetter_64 : decode cX0_writeLetter 64 = .ok (.bipush 8, 2) := by decide +kernel
theorem dX0_writeLetter_66 : decode cX0_writeLetter 66 = .ok (.if_icmp .lt 6, 3) := by decide +kernel
theorem dX0_writeLetter_69 : decode cX0_writeLetter 69 = .ok (.bipush (-4), 2) := by decide +kernel
theorem dX0_writeLetter_71 : decode cX0_writeLetter 71 = .ok (.ireturn, 1) := by decide +kernel
theorem dX0_writeLetter_72 : decode cX0_writeLetter 72 = .ok (.iload_n 3, 1) := by decide +kernel
theorem dX0_writeLetter_73 : decode cX0_writeLetter 73 = .ok (.bipush (-6), 2) := by decide +kernel
theorem dX0_writeLetter_75 : decode cX0_writeLetter 75 = .ok (.if_icmp .eq 19, 3) := by decide +kernel
theorem dX0_writeLetter_78 : decode cX0_writeLetter 78 = .ok (.aload_n 0, 1) := by decide +kernel
theorem dX0_writeLetter_79 : decode cX0_writeLetter 79 = .ok (.getfield 25, 3) := by decide +kernel
theorem dX0_writeLetter_82 : decode cX0_writeLetter 82 = .ok (.getfield 61, 3) := by decide +kernel
theorem dX0_writeLetter_85 : decode cX0_writeLetter 85 = .ok (.iload_n 3, 1) := by decide +kernel
theorem dX0_writeLetter_86 : decode cX0_writeLetter 86 = .ok (.iaload, 1) := by decide +kernel
theorem dX0_writeLetter_87 : decode cX0_writeLetter 87 = .ok (.iconst 1, 1) := by decide +kernel
theorem dX0_writeLetter_88 : decode cX0_writeLetter 88 = .ok (.if_icmp .eq 6, 3) := by decide +kernel
theorem dX0_writeLetter_91 : decode cX0_writeLetter 91 = .ok (.bipush (-5), 2) := by decide +kernel
theorem dX0_writeLetter_93 : decode cX0_writeLetter 93 = .ok (.ireturn, 1) := by decide +kernel
theorem dX0_writeLetter_94 : decode cX0_writeLetter 94 = .ok (.aload_n 0, 1) := by decide +kernel
theorem dX0_writeLetter_95 : decode cX0_writeLetter 95 = .ok (.getfield 25, 3) := by decide +kernel
theorem dX0_writeLetter_98 : decode cX0_writeLetter 98 = .ok (.getfield 64, 3) := by decide +kernel
theorem dX0_writeLetter_101 : decode cX0_writeLetter 101 = .ok (.iload 4, 2) := by decide +kernel
theorem dX0_writeLetter_103 : decode cX0_writeLetter 103 = .ok (.iload_n 1, 1) := by decide +kernel
theorem dX0_writeLetter_104 : decode cX0_writeLetter 104 = .ok (.iastore, 1) := by decide +kernel
theorem dX0_writeLetter_105 : decode cX0_writeLetter 105 = .ok (.aload_n 0, 1) := by decide +kernel
theorem dX0_writeLetter_106 : decode cX0_writeLetter 106 = .ok (.getfield 25, 3) := by decide +kernel
theorem dX0_writeLetter_109 : decode cX0_writeLetter 109 = .ok (.getfield 67, 3) := by decide +kernel
theorem dX0_writeLetter_112 : decode cX0_writeLetter 112 = .ok (.iload 4, 2) := by decide +kernel
theorem dX0_writeLetter_114 : decode cX0_writeLetter 114 = .ok (.iload_n 2, 1) := by decide +kernel
theorem dX0_writeLetter_115 : decode cX0_writeLetter 115 = .ok (.iastore, 1) := by decide +kernel
theorem dX0_writeLetter_116 : decode cX0_writeLetter 116 = .ok (.aload_n 0, 1) := by decide +kernel
theorem dX0_writeLetter_117 : decode cX0_writeLetter 117 = .ok (.getfield 25, 3) := by decide +kernel
theorem dX0_writeLetter_120 : decode cX0_writeLetter 120 = .ok (.getfield 70, 3) := by decide +kernel
theorem dX0_writeLetter_123 : decode cX0_writeLetter 123 = .ok (.iload 4, 2) := by decide +kernel
theorem dX0_writeLetter_125 : decode cX0_writeLetter 125 = .ok (.aload_n 0, 1) := by decide +kernel
theorem dX0_writeLetter_126 : decode cX0_writeLetter 126 = .ok (.invokevirtual 73, 3) := by decide +kernel
theorem dX0_writeLetter_129 : decode cX0_writeLetter 129 = .ok (.iastore, 1) := by decide +kernel
theorem dX0_writeLetter_130 : decode cX0_writeLetter 130 = .ok (.aload_n 0, 1) := by decide +kernel
theorem dX0_writeLetter_131 : decode cX0_writeLetter 131 = .ok (.getfield 25, 3) := by decide +kernel
theorem dX0_writeLetter_134 : decode cX0_writeLetter 134 = .ok (.getfield 77, 3) := by decide +kernel
theorem dX0_writeLetter_137 : decode cX0_writeLetter 137 = .ok (.iload 4, 2) := by decide +kernel
theorem dX0_writeLetter_139 : decode cX0_writeLetter 139 = .ok (.iload_n 3, 1) := by decide +kernel
theorem dX0_writeLetter_140 : decode cX0_writeLetter 140 = .ok (.iastore, 1) := by decide +kernel
theorem dX0_writeLetter_141 : decode cX0_writeLetter 141 = .ok (.aload_n 0, 1) := by decide +kernel
theorem dX0_writeLetter_142 : decode cX0_writeLetter 142 = .ok (.getfield 25, 3) := by decide +kernel
theorem dX0_writeLetter_145 : decode cX0_writeLetter 145 = .ok (.getfield 61, 3) := by decide +kernel
theorem dX0_writeLetter_148 : decode cX0_writeLetter 148 = .ok (.iload 4, 2) := by decide +kernel
theorem dX0_writeLetter_150 : decode cX0_writeLetter 150 = .ok (.iconst 0, 1) := by decide +kernel
theorem dX0_writeLetter_151 : decode cX0_writeLetter 151 = .ok (.iastore, 1) := by decide +kernel
theorem dX0_writeLetter_152 : decode cX0_writeLetter 152 = .ok (.aload_n 0, 1) := by decide +kernel
theorem dX0_writeLetter_153 : decode cX0_writeLetter 153 = .ok (.getfield 25, 3) := by decide +kernel
theorem dX0_writeLetter_156 : decode cX0_writeLetter 156 = .ok (.getfield 80, 3) := by decide +kernel
theorem dX0_writeLetter_159 : decode cX0_writeLetter 159 = .ok (.iload 4, 2) := by decide +kernel
theorem dX0_writeLetter_161 : decode cX0_writeLetter 161 = .ok (.bipush (-6), 2) := by decide +kernel
theorem dX0_writeLetter_163 : decode cX0_writeLetter 163 = .ok (.iastore, 1) := by decide +kernel
theorem dX0_writeLetter_164 : decode cX0_writeLetter 164 = .ok (.aload_n 0, 1) := by decide +kernel
theorem dX0_writeLetter_165 : decode cX0_writeLetter 165 = .ok (.getfield 25, 3) := by decide +kernel
theorem dX0_writeLetter_168 : decode cX0_writeLetter 168 = .ok (.iload 4, 2) := by decide +kernel
theorem dX0_writeLetter_170 : decode cX0_writeLetter 170 = .ok (.iconst 1, 1) := by decide +kernel
theorem dX0_writeLetter_171 : decode cX0_writeLetter 171 = .ok (.iadd, 1) := by decide +kernel
theorem dX0_writeLetter_172 : decode cX0_writeLetter 172 = .ok (.putfield 54, 3) := by decide +kernel
theorem dX0_writeLetter_175 : decode cX0_writeLetter 175 = .ok (.iload 4, 2) := by decide +kernel
theorem dX0_writeLetter_177 : decode cX0_writeLetter 177 = .ok (.ireturn, 1) := by decide +kernel
set_option maxRecDepth 20000 in
theorem ggX0_turnKey_X6_isMood : GoodIn wsX0_turnKey wsX6_isMood := goodIn_r _ [5] (by decide +kernel) (by decide +kernel)
set_option maxRecDepth 20000 in
theorem gX0_turnKey_X6_isMood_n47 : GoodIn wsX0_turnKey (wsX6_isMood) := ggX0_turnKey_X6_isMood
theorem dX0_turnKey_0 : decode cX0_turnKey 0 = .ok (.iload_n 1, 1) := by decide +kernel
theorem dX0_turnKey_1 : decode cX0_turnKey 1 = .ok (.invokestatic 47, 3) := by decide +kernel
theorem dX0_turnKey_4 : decode cX0_turnKey 4 = .ok (.ifCond .ne 5, 3) := by decide +kernel
theorem dX0_turnKey_7 : decode cX0_turnKey 7 = .ok (.iconst (-1), 1) := by decide +kernel
theorem dX0_turnKey_8 : decode cX0_turnKey 8 = .ok (.ireturn, 1) := by decide +kernel
theorem dX0_turnKey_9 : decode cX0_turnKey 9 = .ok (.aload_n 0, 1) := by decide +kernel
theorem dX0_turnKey_10 : decode cX0_turnKey 10 = .ok (.getfield 18, 3) := by decide +kernel
theorem dX0_turnKey_13 : decode cX0_turnKey 13 = .ok (.getfield 83, 3) := by decide +kernel
theorem dX0_turnKey_16 : decode cX0_turnKey 16 = .ok (.iload_n 1, 1) := by decide +kernel
theorem dX0_turnKey_17 : decode cX0_turnKey 17 = .ok (.iconst 1, 1) := by decide +kernel
theorem dX0_turnKey_18 : decode cX0_turnKey 18 = .ok (.aload_n 0, 1) := by decide +kernel
theorem dX0_turnKey_19 : decode cX0_turnKey 19 = .ok (.getfield 18, 3) := by decide +kernel
theorem dX0_turnKey_22 : decode cX0_turnKey 22 = .ok (.getfield 83, 3) := by decide +kernel
theorem dX0_turnKey_25 : decode cX0_turnKey 25 = .ok (.iload_n 1, 1) := by decide +kernel
theorem dX0_turnKey_26 : decode cX0_turnKey 26 = .ok (.iaload, 1) := by decide +kernel
theorem dX0_turnKey_27 : decode cX0_turnKey 27 = .ok (.isub, 1) := by decide +kernel
theorem dX0_turnKey_28 : decode cX0_turnKey 28 = .ok (.iastore, 1) := by decide +kernel
theorem dX0_turnKey_29 : decode cX0_turnKey 29 = .ok (.aload_n 0, 1) := by decide +kernel
theorem dX0_turnKey_30 : decode cX0_turnKey 30 = .ok (.getfield 18, 3) := by decide +kernel
theorem dX0_turnKey_33 : decode cX0_turnKey 33 = .ok (.getfield 83, 3) := by decide +kernel
theorem dX0_turnKey_36 : decode cX0_turnKey 36 = .ok (.iload_n 1, 1) := by decide +kernel
theorem dX0_turnKey_37 : decode cX0_turnKey 37 = .ok (.iaload, 1) := by decide +kernel
theorem dX0_turnKey_38 : decode cX0_turnKey 38 = .ok (.ireturn, 1) := by decide +kernel
set_option maxRecDepth 20000 in
theorem ggX0_changeRest_X6_isMood : GoodIn wsX0_changeRest wsX6_isMood := goodIn_r _ [5] (by decide +kernel) (by decide +kernel)
set_option maxRecDepth 20000 in
theorem gX0_changeRest_X6_isMood_n47 : GoodIn wsX0_changeRest (wsX6_isMood) := ggX0_changeRest_X6_isMood
theorem dX0_changeRest_0 : decode cX0_changeRest 0 = .ok (.iload_n 1, 1) := by decide +kernel
theorem dX0_changeRest_1 : decode cX0_changeRest 1 = .ok (.invokestatic 47, 3) := by decide +kernel
theorem dX0_changeRest_4 : decode cX0_changeRest 4 = .ok (.ifCond .ne 5, 3) := by decide +kernel
theorem dX0_changeRest_7 : decode cX0_changeRest 7 = .ok (.iconst (-1), 1) := by decide +kernel
theorem dX0_changeRest_8 : decode cX0_changeRest 8 = .ok (.ireturn, 1) := by decide +kernel
theorem dX0_changeRest_9 : decode cX0_changeRest 9 = .ok (.iload_n 2, 1) := by decide +kernel
theorem dX0_changeRest_10 : decode cX0_changeRest 10 = .ok (.ifCond .lt 9, 3) := by decide +kernel
theorem dX0_changeRest_13 : decode cX0_changeRest 13 = .ok (.iload_n 2, 1) := by decide +kernel
theorem dX0_changeRest_14 : decode cX0_changeRest 14 = .ok (.bipush 30, 2) := by decide +kernel
theorem dX0_changeRest_16 : decode cX0_changeRest 16 = .ok (.if_icmp .le 6, 3) := by decide +kernel
theorem dX0_changeRest_19 : decode cX0_changeRest 19 = .ok (.bipush (-2), 2) := by decide +kernel
theorem dX0_changeRest_21 : decode cX0_changeRest 21 = .ok (.ireturn, 1) := by decide +kernel
theorem dX0_changeRest_22 : decode cX0_changeRest 22 = .ok (.aload_n 0, 1) := by decide +kernel
theorem dX0_changeRest_23 : decode cX0_changeRest 23 = .ok (.getfield 18, 3) := by decide +kernel
theorem dX0_changeRest_26 : decode cX0_changeRest 26 = .ok (.getfield 86, 3) := by decide +kernel
theorem dX0_changeRest_29 : decode cX0_changeRest 29 = .ok (.iload_n 1, 1) := by decide +kernel
theorem dX0_changeRest_30 : decode cX0_changeRest 30 = .ok (.iaload, 1) := by decide +kernel
theorem dX0_changeRest_31 : decode cX0_changeRest 31 = .ok (.istore_n 3, 1) := by decide +kernel
theorem dX0_changeRest_32 : decode cX0_changeRest 32 = .ok (.aload_n 0, 1) := by decide +kernel
theorem dX0_changeRest_33 : decode cX0_changeRest 33 = .ok (.getfield 18, 3) := by decide +kernel
theorem dX0_changeRest_36 : decode cX0_changeRest 36 = .ok (.getfield 86, 3) := by decide +kernel
theorem dX0_changeRest_39 : decode cX0_changeRest 39 = .ok (.iload_n 1, 1) := by decide +kernel
theorem dX0_changeRest_40 : decode cX0_changeRest 40 = .ok (.iload_n 2, 1) := by decide +kernel
theorem dX0_changeRest_41 : decode cX0_changeRest 41 = .ok (.iastore, 1) := by decide +kernel
theorem dX0_changeRest_42 : decode cX0_changeRest 42 = .ok (.iload_n 3, 1) := by decide +kernel
theorem dX0_changeRest_43 : decode cX0_changeRest 43 = .ok (.ireturn, 1) := by decide +kernel
set_option maxRecDepth 20000 in
theorem ggX0_changeHours_X6_isMood : GoodIn wsX0_changeHours wsX6_isMood := goodIn_r _ [6] (by decide +kernel) (by decide +kernel)
set_option maxRecDepth 20000 in
theorem gX0_changeHours_X6_isMood_n47 : GoodIn wsX0_changeHours (wsX6_isMood) := ggX0_changeHours_X6_isMood
set_option maxRecDepth 20000 in
theorem ggX0_changeHours_X6_isHour : GoodIn wsX0_changeHours wsX6_isHour := goodIn_r _ [8] (by decide +kernel) (by decide +kernel)
set_option maxRecDepth 20000 in
theorem gX0_changeHours_X6_isHour_n89 : GoodIn wsX0_changeHours (wsX6_isHour) := ggX0_changeHours_X6_isHour
theorem dX0_changeHours_0 : decode cX0_changeHours 0 = .ok (.iload_n 1, 1) := by decide +kernel
theorem dX0_changeHours_1 : decode cX0_changeHours 1 = .ok (.invokestatic 47, 3) := by decide +kernel
theorem dX0_changeHours_4 : decode cX0_changeHours 4 = .ok (.ifCond .ne 5, 3) := by decide +kernel
theorem dX0_changeHours_7 : decode cX0_changeHours 7 = .ok (.iconst (-1), 1) := by decide +kernel
theorem dX0_changeHours_8 : decode cX0_changeHours 8 = .ok (.ireturn, 1) := by decide +kernel
theorem dX0_changeHours_9 : decode cX0_changeHours 9 = .ok (.iload_n 2, 1) := by decide +kernel
theorem dX0_changeHours_10 : decode cX0_changeHours 10 = .ok (.bipush (-6), 2) := by decide +kernel
theorem dX0_changeHours_12 : decode cX0_changeHours 12 = .ok (.if_icmp .eq 25, 3) := by decide +kernel
theorem dX0_changeHours_15 : decode cX0_changeHours 15 = .ok (.iload_n 2, 1) := by decide +kernel
theorem dX0_changeHours_16 : decode cX0_changeHours 16 = .ok (.invokestatic 89, 3) := by decide +kernel
theorem dX0_changeHours_19 : decode cX0_changeHours 19 = .ok (.ifCond .eq 15, 3) := by decide +kernel
theorem dX0_changeHours_22 : decode cX0_changeHours 22 = .ok (.iload_n 3, 1) := by decide +kernel
theorem dX0_changeHours_23 : decode cX0_changeHours 23 = .ok (.invokestatic 89, 3) := by decide +kernel
theorem dX0_changeHours_26 : decode cX0_changeHours 26 = .ok (.ifCond .eq 8, 3) := by decide +kernel
theorem dX0_changeHours_29 : decode cX0_changeHours 29 = .ok (.iload_n 2, 1) := by decide +kernel
theorem dX0_changeHours_30 : decode cX0_changeHours 30 = .ok (.iload_n 3, 1) := by decide +kernel
theorem dX0_changeHours_31 : decode cX0_changeHours 31 = .ok (.if_icmp .ne 6, 3) := by decide +kernel
theorem dX0_changeHours_34 : decode cX0_changeHours 34 = .ok (.bipush (-2), 2) := by decide +kernel
theorem dX0_changeHours_36 : decode cX0_changeHours 36 = .ok (.ireturn, 1) := by decide +kernel
theorem dX0_changeHours_37 : decode cX0_changeHours 37 = .ok (.aload_n 0, 1) := by decide +kernel
theorem dX0_changeHours_38 : decode cX0_changeHours 38 = .ok (.getfield 18, 3) := by decide +kernel
theorem dX0_changeHours_41 : decode cX0_changeHours 41 = .ok (.getfield 92, 3) := by decide +kernel
theorem dX0_changeHours_44 : decode cX0_changeHours 44 = .ok (.iload_n 1, 1) := by decide +kernel
theorem dX0_changeHours_45 : decode cX0_changeHours 45 = .ok (.iaload, 1) := by decide +kernel
theorem dX0_changeHours_46 : decode cX0_changeHours 46 = .ok (.bipush (-6), 2) := by decide +kernel
theorem dX0_changeHours_48 : decode cX0_changeHours 48 = .ok (.if_icmp .ne 7, 3) := by decide +kernel
theorem dX0_changeHours_51 : decode cX0_changeHours 51 = .ok (.iconst 0, 1) := by decide +kernel
theorem dX0_changeHours_52 : decode cX0_changeHours 52 = .ok (.goto 4, 3) := by decide +kernel
theorem dX0_changeHours_55 : decode cX0_changeHours 55 = .ok (.iconst 1, 1) := by decide +kernel
theorem dX0_changeHours_56 : decode cX0_changeHours 56 = .ok (.istore 4, 2) := by decide +kernel
theorem dX0_changeHours_58 : decode cX0_changeHours 58 = .ok (.aload_n 0, 1) := by decide +kernel
theorem dX0_changeHours_59 : decode cX0_changeHours 59 = .ok (.getfield 18, 3) := by decide +kernel
theorem dX0_changeHours_62 : decode cX0_changeHours 62 = .ok (.getfield 92, 3) := by decide +kernel
theorem dX0_changeHours_65 : decode cX0_changeHours 65 = .ok (.iload_n 1, 1) := by decide +kernel
theorem dX0_changeHours_66 : decode cX0_changeHours 66 = .ok (.iload_n 2, 1) := by decide +kernel
theorem dX0_changeHours_67 : decode cX0_changeHours 67 = .ok (.iastore, 1) := by decide +kernel
theorem dX0_changeHours_68 : decode cX0_changeHours 68 = .ok (.aload_n 0, 1) := by decide +kernel
theorem dX0_changeHours_69 : decode cX0_changeHours 69 = .ok (.getfield 18, 3) := by decide +kernel
theorem dX0_changeHours_72 : decode cX0_changeHours 72 = .ok (.getfield 95, 3) := by decide +kernel
theorem dX0_changeHours_75 : decode cX0_changeHours 75 = .ok (.iload_n 1, 1) := by decide +kernel
theorem dX0_changeHours_76 : decode cX0_changeHours 76 = .ok (.iload_n 2, 1) := by decide +kernel
theorem dX0_changeHours_77 : decode cX0_changeHours 77 = .ok (.bipush (-6), 2) := by decide +kernel
theorem dX0_changeHours_79 : decode cX0_changeHours 79 = .ok (.if_icmp .ne 8, 3) := by decide +kernel
theorem dX0_changeHours_82 : decode cX0_changeHours 82 = .ok (.bipush (-6), 2) := by decide +kernel
theorem dX0_changeHours_84 : decode cX0_changeHours 84 = .ok (.goto 4, 3) := by decide +kernel
theorem dX0_changeHours_87 : decode cX0_changeHours 87 = .ok (.iload_n 3, 1) := by decide +kernel
theorem dX0_changeHours_88 : decode cX0_changeHours 88 = .ok (.iastore, 1) := by decide +kernel
theorem dX0_changeHours_89 : decode cX0_changeHours 89 = .ok (.iload 4, 2) := by decide +kernel
theorem dX0_changeHours_91 : decode cX0_changeHours 91 = .ok (.ireturn, 1) := by decide +kernel
set_option maxRecDepth 20000 in
theorem ggX0_burnLetter_X3_isLetter : GoodIn wsX0_burnLetter wsX3_isLetter := goodIn_r _ [8, 9, 41, 42, 43, 44, 45, 46, 47, 48] (by decide +kernel) (by decide +kernel)
set_option maxRecDepth 20000 in
theorem gX0_burnLetter_X3_isLetter : GoodIn wsX0_burnLetter (wsV RX0 51 RX3 yX3_isLetter wsX3_isLetter) := goodIn_app (goodIn_of _ (by decide +kernel)) ggX0_burnLetter_X3_isLetter
set_option maxRecDepth 20000 in
theorem ggX0_burnLetter_X0_isShut : GoodIn wsX0_burnLetter wsX0_isShut := goodIn_r _ [14, 15, 16, 17, 18, 19, 37, 38, 39, 40, 49, 50, 51, 52] (by decide +kernel) (by decide +kernel)
set_option maxRecDepth 20000 in
theorem gX0_burnLetter_X0_isShut : GoodIn wsX0_burnLetter (wsV RX0 98 RX0 yX0_isShut wsX0_isShut) := goodIn_app (goodIn_of _ (by decide +kernel)) ggX0_burnLetter_X0_isShut
set_option maxRecDepth 20000 in
theorem ggX0_burnLetter_X0_heatNow : GoodIn wsX0_burnLetter wsX0_heatNow := goodIn_r _ [23, 1, 2, 24, 25, 26, 27, 28, 29, 30, 31, 32, 33, 34, 13, 35, 36, 37, 38, 39, 40, 41, 42, 43, 44, 45, 46, 47, 48] (by decide +kernel) (by decide +kernel)
set_option maxRecDepth 20000 in
theorem gX0_burnLetter_X0_heatNow : GoodIn wsX0_burnLetter (wsV RX0 101 RX0 yX0_heatNow wsX0_heatNow) := goodIn_app (goodIn_of _ (by decide +kernel)) ggX0_burnLetter_X0_heatNow
theorem dX0_burnLetter_0 : decode cX0_burnLetter 0 = .ok (.aload_n 0, 1) := by decide +kernel
theorem dX0_burnLetter_1 : decode cX0_burnLetter 1 = .ok (.getfield 25, 3) := by decide +kernel
theorem dX0_burnLetter_4 : decode cX0_burnLetter 4 = .ok (.iload_n 1, 1) := by decide +kernel
theorem dX0_burnLetter_5 : decode cX0_burnLetter 5 = .ok (.invokevirtual 51, 3) := by decide +kernel
theorem dX0_burnLetter_8 : decode cX0_burnLetter 8 = .ok (.ifCond .ne 5, 3) := by decide +kernel
theorem dX0_burnLetter_11 : decode cX0_burnLetter 11 = .ok (.iconst (-1), 1) := by decide +kernel
theorem dX0_burnLetter_12 : decode cX0_burnLetter 12 = .ok (.ireturn, 1) := by decide +kernel
theorem dX0_burnLetter_13 : decode cX0_burnLetter 13 = .ok (.aload_n 0, 1) := by decide +kernel
theorem dX0_burnLetter_14 : decode cX0_burnLetter 14 = .ok (.getfield 25, 3) := by decide +kernel
theorem dX0_burnLetter_17 : decode cX0_burnLetter 17 = .ok (.getfield 61, 3) := by decide +kernel
theorem dX0_burnLetter_20 : decode cX0_burnLetter 20 = .ok (.iload_n 1, 1) := by decide +kernel
theorem dX0_burnLetter_21 : decode cX0_burnLetter 21 = .ok (.iaload, 1) := by decide +kernel
theorem dX0_burnLetter_22 : decode cX0_burnLetter 22 = .ok (.ifCond .ne 19, 3) := by decide +kernel
theorem dX0_burnLetter_25 : decode cX0_burnLetter 25 = .ok (.aload_n 0, 1) := by decide +kernel
theorem dX0_burnLetter_26 : decode cX0_burnLetter 26 = .ok (.aload_n 0, 1) := by decide +kernel
theorem dX0_burnLetter_27 : decode cX0_burnLetter 27 = .ok (.getfield 25, 3) := by decide +kernel
theorem dX0_burnLetter_30 : decode cX0_burnLetter 30 = .ok (.getfield 64, 3) := by decide +kernel
theorem dX0_burnLetter_33 : decode cX0_burnLetter 33 = .ok (.iload_n 1, 1) := by decide +kernel
theorem dX0_burnLetter_34 : decode cX0_burnLetter 34 = .ok (.iaload, 1) := by decide +kernel
theorem dX0_burnLetter_35 : decode cX0_burnLetter 35 = .ok (.invokevirtual 98, 3) := by decide +kernel
theorem dX0_burnLetter_38 : decode cX0_burnLetter 38 = .ok (.ifCond .eq 6, 3) := by decide +kernel
theorem dX0_burnLetter_41 : decode cX0_burnLetter 41 = .ok (.bipush (-5), 2) := by decide +kernel
theorem dX0_burnLetter_43 : decode cX0_burnLetter 43 = .ok (.ireturn, 1) := by decide +kernel
theorem dX0_burnLetter_44 : decode cX0_burnLetter 44 = .ok (.aload_n 0, 1) := by decide +kernel
theorem dX0_burnLetter_45 : decode cX0_burnLetter 45 = .ok (.getfield 25, 3) := by decide +kernel
theorem dX0_burnLetter_48 : decode cX0_burnLetter 48 = .ok (.getfield 61, 3) := by decide +kernel
theorem dX0_burnLetter_51 : decode cX0_burnLetter 51 = .ok (.iload_n 1, 1) := by decide +kernel
theorem dX0_burnLetter_52 : decode cX0_burnLetter 52 = .ok (.iconst 2, 1) := by decide +kernel
theorem dX0_burnLetter_53 : decode cX0_burnLetter 53 = .ok (.iastore, 1) := by decide +kernel
theorem dX0_burnLetter_54 : decode cX0_burnLetter 54 = .ok (.aload_n 0, 1) := by decide +kernel
theorem dX0_burnLetter_55 : decode cX0_burnLetter 55 = .ok (.iload_n 1, 1) := by decide +kernel
theorem dX0_burnLetter_56 : decode cX0_burnLetter 56 = .ok (.invokevirtual 101, 3) := by decide +kernel
theorem dX0_burnLetter_59 : decode cX0_burnLetter 59 = .ok (.ireturn, 1) := by decide +kernel
set_option maxRecDepth 20000 in
theorem ggX0_isShut_X6_isMood : GoodIn wsX0_isShut wsX6_isMood := goodIn_r _ [5] (by decide +kernel) (by decide +kernel)
set_option maxRecDepth 20000 in
theorem gX0_isShut_X6_isMood_n47 : GoodIn wsX0_isShut (wsX6_isMood) := ggX0_isShut_X6_isMood
theorem dX0_isShut_0 : decode cX0_isShut 0 = .ok (.iload_n 1, 1) := by decide +kernel
theorem dX0_isShut_1 : decode cX0_isShut 1 = .ok (.invokestatic 47, 3) := by decide +kernel
theorem dX0_isShut_4 : decode cX0_isShut 4 = .ok (.ifCond .eq 20, 3) := by decide +kernel
theorem dX0_isShut_7 : decode cX0_isShut 7 = .ok (.aload_n 0, 1) := by decide +kernel
theorem dX0_isShut_8 : decode cX0_isShut 8 = .ok (.getfield 18, 3) := by decide +kernel
theorem dX0_isShut_11 : decode cX0_isShut 11 = .ok (.getfield 83, 3) := by decide +kernel
theorem dX0_isShut_14 : decode cX0_isShut 14 = .ok (.iload_n 1, 1) := by decide +kernel
theorem dX0_isShut_15 : decode cX0_isShut 15 = .ok (.iaload, 1) := by decide +kernel
theorem dX0_isShut_16 : decode cX0_isShut 16 = .ok (.iconst 1, 1) := by decide +kernel
theorem dX0_isShut_17 : decode cX0_isShut 17 = .ok (.if_icmp .ne 7, 3) := by decide +kernel
theorem dX0_isShut_20 : decode cX0_isShut 20 = .ok (.iconst 1, 1) := by decide +kernel
theorem dX0_isShut_21 : decode cX0_isShut 21 = .ok (.goto 4, 3) := by decide +kernel
theorem dX0_isShut_24 : decode cX0_isShut 24 = .ok (.iconst 0, 1) := by decide +kernel
theorem dX0_isShut_25 : decode cX0_isShut 25 = .ok (.ireturn, 1) := by decide +kernel
set_option maxRecDepth 20000 in
theorem ggX0_passHours_X0_hourOfDay : GoodIn wsX0_passHours wsX0_hourOfDay := goodIn_r _ [8, 1, 65, 66, 67, 68] (by decide +kernel) (by decide +kernel)
set_option maxRecDepth 20000 in
theorem gX0_passHours_X0_hourOfDay : GoodIn wsX0_passHours (wsV RX0 105 RX0 yX0_hourOfDay wsX0_hourOfDay) := goodIn_app (goodIn_of _ (by decide +kernel)) ggX0_passHours_X0_hourOfDay
set_option maxRecDepth 20000 in
theorem ggX0_passHours_X1_turnKeysBy : GoodIn wsX0_passHours wsX1_turnKeysBy := goodIn_r _ [13, 14, 15, 16, 69, 70, 71, 72] (by decide +kernel) (by decide +kernel)
set_option maxRecDepth 20000 in
theorem gX0_passHours_X1_turnKeysBy : GoodIn wsX0_passHours (wsV RX0 108 RX1 yX1_turnKeysBy wsX1_turnKeysBy) := goodIn_app (goodIn_of _ (by decide +kernel)) ggX0_passHours_X1_turnKeysBy
set_option maxRecDepth 20000 in
theorem ggX0_passHours_X0_setThatWouldGo : GoodIn wsX0_passHours wsX0_setThatWouldGo := goodIn_r _ [20, 21, 22, 2, 23, 24, 25, 26, 27, 28, 29, 30, 31, 32, 33, 7, 34, 1, 35, 36, 37, 38, 39, 3, 40, 41, 42, 43, 44, 45, 46, 65, 66, 67, 68, 73, 74, 75, 76, 77, 78, 79, 80, 69, 70, 71, 72] (by decide +kernel) (by decide +kernel)
set_option maxRecDepth 20000 in
theorem gX0_passHours_X0_setThatWouldGo : GoodIn wsX0_passHours (wsV RX0 112 RX0 yX0_setThatWouldGo wsX0_setThatWouldGo) := goodIn_app (goodIn_of _ (by decide +kernel)) ggX0_passHours_X0_setThatWouldGo
set_option maxRecDepth 20000 in
theorem ggX0_passHours_X0_send : GoodIn wsX0_passHours wsX0_send := goodIn_r _ [50, 21, 22, 51, 52, 53, 54, 55, 56, 7, 57, 41, 39, 3, 43, 44, 45, 46, 31, 32, 33, 34, 1, 58, 59, 60, 61, 62, 63, 64, 65, 66, 67, 68, 73, 74, 75, 76, 77, 78, 79, 80] (by decide +kernel) (by decide +kernel)
set_option maxRecDepth 20000 in
theorem gX0_passHours_X0_send : GoodIn wsX0_passHours (wsV RX0 116 RX0 yX0_send wsX0_send) := goodIn_app (goodIn_of _ (by decide +kernel)) ggX0_passHours_X0_send
theorem dX0_passHours_0 : decode cX0_passHours 0 = .ok (.iload_n 1, 1) := by decide +kernel
theorem dX0_passHours_1 : decode cX0_passHours 1 = .ok (.iconst 1, 1) := by decide +kernel
theorem dX0_passHours_2 : decode cX0_passHours 2 = .ok (.if_icmp .lt 10, 3) := by decide +kernel
theorem dX0_passHours_5 : decode cX0_passHours 5 = .ok (.iload_n 1, 1) := by decide +kernel
theorem dX0_passHours_6 : decode cX0_passHours 6 = .ok (.sipush 240, 3) := by decide +kernel
theorem dX0_passHours_9 : decode cX0_passHours 9 = .ok (.if_icmp .le 6, 3) := by decide +kernel
theorem dX0_passHours_12 : decode cX0_passHours 12 = .ok (.bipush (-2), 2) := by decide +kernel
theorem dX0_passHours_14 : decode cX0_passHours 14 = .ok (.ireturn, 1) := by decide +kernel
theorem dX0_passHours_15 : decode cX0_passHours 15 = .ok (.aload_n 0, 1) := by decide +kernel
theorem dX0_passHours_16 : decode cX0_passHours 16 = .ok (.getfield 33, 3) := by decide +kernel
theorem dX0_passHours_19 : decode cX0_passHours 19 = .ok (.iload_n 1, 1) := by decide +kernel
theorem dX0_passHours_20 : decode cX0_passHours 20 = .ok (.iadd, 1) := by decide +kernel
theorem dX0_passHours_21 : decode cX0_passHours 21 = .ok (.bipush 24, 2) := by decide +kernel
theorem dX0_passHours_23 : decode cX0_passHours 23 = .ok (.idiv, 1) := by decide +kernel
theorem dX0_passHours_24 : decode cX0_passHours 24 = .ok (.sipush 999, 3) := by decide +kernel
theorem dX0_passHours_27 : decode cX0_passHours 27 = .ok (.if_icmp .le 6, 3) := by decide +kernel
theorem dX0_passHours_30 : decode cX0_passHours 30 = .ok (.bipush (-5), 2) := by decide +kernel
theorem dX0_passHours_32 : decode cX0_passHours 32 = .ok (.ireturn, 1) := by decide +kernel
theorem dX0_passHours_33 : decode cX0_passHours 33 = .ok (.iconst 0, 1) := by decide +kernel
theorem dX0_passHours_34 : decode cX0_passHours 34 = .ok (.istore_n 2, 1) := by decide +kernel
theorem dX0_passHours_35 : decode cX0_passHours 35 = .ok (.iconst 0, 1) := by decide +kernel
theorem dX0_passHours_36 : decode cX0_passHours 36 = .ok (.istore_n 3, 1) := by decide +kernel
theorem dX0_passHours_37 : decode cX0_passHours 37 = .ok (.iload_n 3, 1) := by decide +kernel
theorem dX0_passHours_38 : decode cX0_passHours 38 = .ok (.iload_n 1, 1) := by decide +kernel
theorem dX0_passHours_39 : decode cX0_passHours 39 = .ok (.if_icmp .ge 54, 3) := by decide +kernel
theorem dX0_passHours_42 : decode cX0_passHours 42 = .ok (.aload_n 0, 1) := by decide +kernel
theorem dX0_passHours_43 : decode cX0_passHours 43 = .ok (.getfield 18, 3) := by decide +kernel
theorem dX0_passHours_46 : decode cX0_passHours 46 = .ok (.aload_n 0, 1) := by decide +kernel
theorem dX0_passHours_47 : decode cX0_passHours 47 = .ok (.invokevirtual 105, 3) := by decide +kernel
theorem dX0_passHours_50 : decode cX0_passHours 50 = .ok (.invokevirtual 108, 3) := by decide +kernel
theorem dX0_passHours_53 : decode cX0_passHours 53 = .ok (.aload_n 0, 1) := by decide +kernel
theorem dX0_passHours_54 : decode cX0_passHours 54 = .ok (.invokevirtual 105, 3) := by decide +kernel
theorem dX0_passHours_57 : decode cX0_passHours 57 = .ok (.aload_n 0, 1) := by decide +kernel
theorem dX0_passHours_58 : decode cX0_passHours 58 = .ok (.getfield 9, 3) := by decide +kernel
theorem dX0_passHours_61 : decode cX0_passHours 61 = .ok (.iconst 0, 1) := by decide +kernel
theorem dX0_passHours_62 : decode cX0_passHours 62 = .ok (.iaload, 1) := by decide +kernel
theorem dX0_passHours_63 : decode cX0_passHours 63 = .ok (.if_icmp .ne 14, 3) := by decide +kernel
theorem dX0_passHours_66 : decode cX0_passHours 66 = .ok (.iload_n 2, 1) := by decide +kernel
theorem dX0_passHours_67 : decode cX0_passHours 67 = .ok (.aload_n 0, 1) := by decide +kernel
theorem dX0_passHours_68 : decode cX0_passHours 68 = .ok (.aload_n 0, 1) := by decide +kernel
theorem dX0_passHours_69 : decode cX0_passHours 69 = .ok (.invokevirtual 112, 3) := by decide +kernel
theorem dX0_passHours_72 : decode cX0_passHours 72 = .ok (.invokevirtual 116, 3) := by decide +kernel
theorem dX0_passHours_75 : decode cX0_passHours 75 = .ok (.iadd, 1) := by decide +kernel
theorem dX0_passHours_76 : decode cX0_passHours 76 = .ok (.istore_n 2, 1) := by decide +kernel
theorem dX0_passHours_77 : decode cX0_passHours 77 = .ok (.aload_n 0, 1) := by decide +kernel
theorem dX0_passHours_78 : decode cX0_passHours 78 = .ok (.dup, 1) := by decide +kernel
theorem dX0_passHours_79 : decode cX0_passHours 79 = .ok (.getfield 33, 3) := by decide +kernel
theorem dX0_passHours_82 : decode cX0_passHours 82 = .ok (.iconst 1, 1) := by decide +kernel
theorem dX0_passHours_83 : decode cX0_passHours 83 = .ok (.iadd, 1) := by decide +kernel
theorem dX0_passHours_84 : decode cX0_passHours 84 = .ok (.putfield 33, 3) := by decide +kernel
theorem dX0_passHours_87 : decode cX0_passHours 87 = .ok (.iinc 3 1, 3) := by decide +kernel
theorem dX0_passHours_90 : decode cX0_passHours 90 = .ok (.goto (-53), 3) := by decide +kernel
theorem dX0_passHours_93 : decode cX0_passHours 93 = .ok (.iload_n 2, 1) := by decide +kernel
theorem dX0_passHours_94 : decode cX0_passHours 94 = .ok (.ireturn, 1) := by decide +kernel
set_option maxRecDepth 20000 in
theorem ggX0_send_X0_heatNow : GoodIn wsX0_send wsX0_heatNow := goodIn_r _ [10, 1, 5, 3, 11, 12, 13, 14, 15, 16, 17, 18, 19, 20, 9, 21, 22, 30, 31, 32, 33, 34, 35, 36, 37, 38, 39, 40, 41] (by decide +kernel) (by decide +kernel)
set_option maxRecDepth 20000 in
theorem gX0_send_X0_heatNow : GoodIn wsX0_send (wsV RX0 101 RX0 yX0_heatNow wsX0_heatNow) := goodIn_app (goodIn_of _ (by decide +kernel)) ggX0_send_X0_heatNow
set_option maxRecDepth 20000 in
theorem ggX0_send_X0_today : GoodIn wsX0_send wsX0_today := goodIn_r _ [21, 22, 30, 31, 32, 33] (by decide +kernel) (by decide +kernel)
set_option maxRecDepth 20000 in
theorem gX0_send_X0_today : GoodIn wsX0_send (wsV RX0 73 RX0 yX0_today wsX0_today) := goodIn_app (goodIn_of _ (by decide +kernel)) ggX0_send_X0_today
set_option maxRecDepth 20000 in
theorem ggX0_send_J13_bitCount_95d88 : GoodIn wsX0_send wsJ13_bitCount_95d88 := goodIn_r _ [26, 27, 28, 29] (by decide +kernel) (by decide +kernel)
set_option maxRecDepth 20000 in
theorem gX0_send_J13_bitCount_95d88 : GoodIn wsX0_send (va_wsS RX0 123 yJ13_bitCount_95d88 wsJ13_bitCount_95d88) := goodIn_app (goodIn_of _ (by decide +kernel)) ggX0_send_J13_bitCount_95d88
theorem dX0_send_0 : decode cX0_send 0 = .ok (.iconst 0, 1) := by decide +kernel
theorem dX0_send_1 : decode cX0_send 1 = .ok (.istore_n 3, 1) := by decide +kernel
theorem dX0_send_2 : decode cX0_send 2 = .ok (.iload_n 3, 1) := by decide +kernel
theorem dX0_send_3 : decode cX0_send 3 = .ok (.aload_n 0, 1) := by decide +kernel
theorem dX0_send_4 : decode cX0_send 4 = .ok (.getfield 25, 3) := by decide +kernel
theorem dX0_send_7 : decode cX0_send 7 = .ok (.getfield 54, 3) := by decide +kernel
theorem dX0_send_10 : decode cX0_send 10 = .ok (.if_icmp .ge 56, 3) := by decide +kernel
theorem dX0_send_13 : decode cX0_send 13 = .ok (.lload_n 1, 1) := by decide +kernel
theorem dX0_send_14 : decode cX0_send 14 = .ok (.iload_n 3, 1) := by decide +kernel
theorem dX0_send_15 : decode cX0_send 15 = .ok (.lushr, 1) := by decide +kernel
theorem dX0_send_16 : decode cX0_send 16 = .ok (.lconst 1, 1) := by decide +kernel
theorem dX0_send_17 : decode cX0_send 17 = .ok (.land, 1) := by decide +kernel
theorem dX0_send_18 : decode cX0_send 18 = .ok (.lconst 1, 1) := by decide +kernel
theorem dX0_send_19 : decode cX0_send 19 = .ok (.lcmp, 1) := by decide +kernel
theorem dX0_send_20 : decode cX0_send 20 = .ok (.ifCond .ne 40, 3) := by decide +kernel
theorem dX0_send_23 : decode cX0_send 23 = .ok (.aload_n 0, 1) := by decide +kernel
theorem dX0_send_24 : decode cX0_send 24 = .ok (.getfield 25, 3) := by decide +kernel
theorem dX0_send_27 : decode cX0_send 27 = .ok (.getfield 120, 3) := by decide +kernel
theorem dX0_send_30 : decode cX0_send 30 = .ok (.iload_n 3, 1) := by decide +kernel
theorem dX0_send_31 : decode cX0_send 31 = .ok (.aload_n 0, 1) := by decide +kernel
theorem dX0_send_32 : decode cX0_send 32 = .ok (.iload_n 3, 1) := by decide +kernel
theorem dX0_send_33 : decode cX0_send 33 = .ok (.invokevirtual 101, 3) := by decide +kernel
theorem dX0_send_36 : decode cX0_send 36 = .ok (.iastore, 1) := by decide +kernel
theorem dX0_send_37 : decode cX0_send 37 = .ok (.aload_n 0, 1) := by decide +kernel
theorem dX0_send_38 : decode cX0_send 38 = .ok (.getfield 25, 3) := by decide +kernel
theorem dX0_send_41 : decode cX0_send 41 = .ok (.getfield 80, 3) := by decide +kernel
theorem dX0_send_44 : decode cX0_send 44 = .ok (.iload_n 3, 1) := by decide +kernel
theorem dX0_send_45 : decode cX0_send 45 = .ok (.aload_n 0, 1) := by decide +kernel
theorem dX0_send_46 : decode cX0_send 46 = .ok (.invokevirtual 73, 3) := by decide +kernel
theorem dX0_send_49 : decode cX0_send 49 = .ok (.iastore, 1) := by decide +kernel
theorem dX0_send_50 : decode cX0_send 50 = .ok (.aload_n 0, 1) := by decide +kernel
theorem dX0_send_51 : decode cX0_send 51 = .ok (.getfield 25, 3) := by decide +kernel
theorem dX0_send_54 : decode cX0_send 54 = .ok (.getfield 61, 3) := by decide +kernel
theorem dX0_send_57 : decode cX0_send 57 = .ok (.iload_n 3, 1) := by decide +kernel
theorem dX0_send_58 : decode cX0_send 58 = .ok (.iconst 1, 1) := by decide +kernel
theorem dX0_send_59 : decode cX0_send 59 = .ok (.iastore, 1) := by decide +kernel
theorem dX0_send_60 : decode cX0_send 60 = .ok (.iinc 3 1, 3) := by decide +kernel
theorem dX0_send_63 : decode cX0_send 63 = .ok (.goto (-61), 3) := by decide +kernel
theorem dX0_send_66 : decode cX0_send 66 = .ok (.lload_n 1, 1) := by decide +kernel
theorem dX0_send_67 : decode cX0_send 67 = .ok (.invokestatic 123, 3) := by decide +kernel
theorem dX0_send_70 : decode cX0_send 70 = .ok (.ireturn, 1) := by decide +kernel
set_option maxRecDepth 20000 in
theorem ggX0_setThatWouldGo_X3_lies : GoodIn wsX0_setThatWouldGo wsX3_lies := goodIn_r _ [9, 10, 11, 35, 36, 37, 38, 39, 40, 41, 42] (by decide +kernel) (by decide +kernel)
set_option maxRecDepth 20000 in
theorem gX0_setThatWouldGo_X3_lies : GoodIn wsX0_setThatWouldGo (wsV RX0 128 RX3 yX3_lies wsX3_lies) := goodIn_app (goodIn_of _ (by decide +kernel)) ggX0_setThatWouldGo_X3_lies
set_option maxRecDepth 20000 in
theorem ggX0_setThatWouldGo_X0_today : GoodIn wsX0_setThatWouldGo wsX0_today := goodIn_r _ [16, 17, 31, 32, 33, 34] (by decide +kernel) (by decide +kernel)
set_option maxRecDepth 20000 in
theorem gX0_setThatWouldGo_X0_today : GoodIn wsX0_setThatWouldGo (wsV RX0 73 RX0 yX0_today wsX0_today) := goodIn_app (goodIn_of _ (by decide +kernel)) ggX0_setThatWouldGo_X0_today
set_option maxRecDepth 20000 in
theorem ggX0_setThatWouldGo_X0_readyDay : GoodIn wsX0_setThatWouldGo wsX0_readyDay := goodIn_r _ [21, 1, 22, 23, 24, 25, 3, 26, 27, 28, 29, 30, 31, 32, 33, 34, 35, 36, 37, 38, 39, 40, 41, 42, 43, 44, 45, 46] (by decide +kernel) (by decide +kernel)
set_option maxRecDepth 20000 in
theorem gX0_setThatWouldGo_X0_readyDay : GoodIn wsX0_setThatWouldGo (wsV RX0 132 RX0 yX0_readyDay wsX0_readyDay) := goodIn_app (goodIn_of _ (by decide +kernel)) ggX0_setThatWouldGo_X0_readyDay
theorem dX0_setThatWouldGo_0 : decode cX0_setThatWouldGo 0 = .ok (.lconst 0, 1) := by decide +kernel
theorem dX0_setThatWouldGo_1 : decode cX0_setThatWouldGo 1 = .ok (.lstore_n 1, 1) := by decide +kernel
theorem dX0_setThatWouldGo_2 : decode cX0_setThatWouldGo 2 = .ok (.iconst 0, 1) := by decide +kernel
theorem dX0_setThatWouldGo_3 : decode cX0_setThatWouldGo 3 = .ok (.istore_n 3, 1) := by decide +kernel
theorem dX0_setThatWouldGo_4 : decode cX0_setThatWouldGo 4 = .ok (.iload_n 3, 1) := by decide +kernel
theorem dX0_setThatWouldGo_5 : decode cX0_setThatWouldGo 5 = .ok (.bipush 6, 2) := by decide +kernel
theorem dX0_setThatWouldGo_7 : decode cX0_setThatWouldGo 7 = .ok (.if_icmp .ge 76, 3) := by decide +kernel
theorem dX0_setThatWouldGo_10 : decode cX0_setThatWouldGo 10 = .ok (.iconst 0, 1) := by decide +kernel
theorem dX0_setThatWouldGo_11 : decode cX0_setThatWouldGo 11 = .ok (.istore 4, 2) := by decide +kernel
theorem dX0_setThatWouldGo_13 : decode cX0_setThatWouldGo 13 = .ok (.iload 4, 2) := by decide +kernel
theorem dX0_setThatWouldGo_15 : decode cX0_setThatWouldGo 15 = .ok (.aload_n 0, 1) := by decide +kernel
theorem dX0_setThatWouldGo_16 : decode cX0_setThatWouldGo 16 = .ok (.getfield 25, 3) := by decide +kernel
theorem dX0_setThatWouldGo_19 : decode cX0_setThatWouldGo 19 = .ok (.getfield 54, 3) := by decide +kernel
theorem dX0_setThatWouldGo_22 : decode cX0_setThatWouldGo 22 = .ok (.if_icmp .ge 55, 3) := by decide +kernel
theorem dX0_setThatWouldGo_25 : decode cX0_setThatWouldGo 25 = .ok (.aload_n 0, 1) := by decide +kernel
theorem dX0_setThatWouldGo_26 : decode cX0_setThatWouldGo 26 = .ok (.getfield 18, 3) := by decide +kernel
theorem dX0_setThatWouldGo_29 : decode cX0_setThatWouldGo 29 = .ok (.getfield 83, 3) := by decide +kernel
theorem dX0_setThatWouldGo_32 : decode cX0_setThatWouldGo 32 = .ok (.iload_n 3, 1) := by decide +kernel
theorem dX0_setThatWouldGo_33 : decode cX0_setThatWouldGo 33 = .ok (.iaload, 1) := by decide +kernel
theorem dX0_setThatWouldGo_34 : decode cX0_setThatWouldGo 34 = .ok (.ifCond .ne 37, 3) := by decide +kernel
theorem dX0_setThatWouldGo_37 : decode cX0_setThatWouldGo 37 = .ok (.aload_n 0, 1) := by decide +kernel
theorem dX0_setThatWouldGo_38 : decode cX0_setThatWouldGo 38 = .ok (.getfield 25, 3) := by decide +kernel
theorem dX0_setThatWouldGo_41 : decode cX0_setThatWouldGo 41 = .ok (.iload 4, 2) := by decide +kernel
theorem dX0_setThatWouldGo_43 : decode cX0_setThatWouldGo 43 = .ok (.iload_n 3, 1) := by decide +kernel
theorem dX0_setThatWouldGo_44 : decode cX0_setThatWouldGo 44 = .ok (.invokevirtual 128, 3) := by decide +kernel
theorem dX0_setThatWouldGo_47 : decode cX0_setThatWouldGo 47 = .ok (.ifCond .eq 24, 3) := by decide +kernel
theorem dX0_setThatWouldGo_50 : decode cX0_setThatWouldGo 50 = .ok (.aload_n 0, 1) := by decide +kernel
theorem dX0_setThatWouldGo_51 : decode cX0_setThatWouldGo 51 = .ok (.invokevirtual 73, 3) := by decide +kernel
theorem dX0_setThatWouldGo_54 : decode cX0_setThatWouldGo 54 = .ok (.aload_n 0, 1) := by decide +kernel
theorem dX0_setThatWouldGo_55 : decode cX0_setThatWouldGo 55 = .ok (.iload 4, 2) := by decide +kernel
theorem dX0_setThatWouldGo_57 : decode cX0_setThatWouldGo 57 = .ok (.iload_n 3, 1) := by decide +kernel
theorem dX0_setThatWouldGo_58 : decode cX0_setThatWouldGo 58 = .ok (.invokevirtual 132, 3) := by decide +kernel
theorem dX0_setThatWouldGo_61 : decode cX0_setThatWouldGo 61 = .ok (.if_icmp .lt 10, 3) := by decide +kernel
theorem dX0_setThatWouldGo_64 : decode cX0_setThatWouldGo 64 = .ok (.lload_n 1, 1) := by decide +kernel
theorem dX0_setThatWouldGo_65 : decode cX0_setThatWouldGo 65 = .ok (.lconst 1, 1) := by decide +kernel
theorem dX0_setThatWouldGo_66 : decode cX0_setThatWouldGo 66 = .ok (.iload 4, 2) := by decide +kernel
theorem dX0_setThatWouldGo_68 : decode cX0_setThatWouldGo 68 = .ok (.lshl, 1) := by decide +kernel
theorem dX0_setThatWouldGo_69 : decode cX0_setThatWouldGo 69 = .ok (.lor, 1) := by decide +kernel
theorem dX0_setThatWouldGo_70 : decode cX0_setThatWouldGo 70 = .ok (.lstore_n 1, 1) := by decide +kernel
theorem dX0_setThatWouldGo_71 : decode cX0_setThatWouldGo 71 = .ok (.iinc 4 1, 3) := by decide +kernel
theorem dX0_setThatWouldGo_74 : decode cX0_setThatWouldGo 74 = .ok (.goto (-61), 3) := by decide +kernel
theorem dX0_setThatWouldGo_77 : decode cX0_setThatWouldGo 77 = .ok (.iinc 3 1, 3) := by decide +kernel
theorem dX0_setThatWouldGo_80 : decode cX0_setThatWouldGo 80 = .ok (.goto (-76), 3) := by decide +kernel
theorem dX0_setThatWouldGo_83 : decode cX0_setThatWouldGo 83 = .ok (.lload_n 1, 1) := by decide +kernel
theorem dX0_setThatWouldGo_84 : decode cX0_setThatWouldGo 84 = .ok (.lreturn, 1) := by decide +kernel
theorem dX0_readyDay_0 : decode cX0_readyDay 0 = .ok (.aload_n 0, 1) := by decide +kernel
theorem dX0_readyDay_1 : decode cX0_readyDay 1 = .ok (.getfield 25, 3) := by decide +kernel
theorem dX0_readyDay_4 : decode cX0_readyDay 4 = .ok (.getfield 67, 3) := by decide +kernel
theorem dX0_readyDay_7 : decode cX0_readyDay 7 = .ok (.iload_n 1, 1) := by decide +kernel
theorem dX0_readyDay_8 : decode cX0_readyDay 8 = .ok (.iaload, 1) := by decide +kernel
theorem dX0_readyDay_9 : decode cX0_readyDay 9 = .ok (.aload_n 0, 1) := by decide +kernel
theorem dX0_readyDay_10 : decode cX0_readyDay 10 = .ok (.getfield 9, 3) := by decide +kernel
theorem dX0_readyDay_13 : decode cX0_readyDay 13 = .ok (.iconst 1, 1) := by decide +kernel
theorem dX0_readyDay_14 : decode cX0_readyDay 14 = .ok (.iaload, 1) := by decide +kernel
theorem dX0_readyDay_15 : decode cX0_readyDay 15 = .ok (.isub, 1) := by decide +kernel
theorem dX0_readyDay_16 : decode cX0_readyDay 16 = .ok (.istore_n 3, 1) := by decide +kernel
theorem dX0_readyDay_17 : decode cX0_readyDay 17 = .ok (.aload_n 0, 1) := by decide +kernel
theorem dX0_readyDay_18 : decode cX0_readyDay 18 = .ok (.getfield 9, 3) := by decide +kernel
theorem dX0_readyDay_21 : decode cX0_readyDay 21 = .ok (.iconst 2, 1) := by decide +kernel
theorem dX0_readyDay_22 : decode cX0_readyDay 22 = .ok (.iaload, 1) := by decide +kernel
theorem dX0_readyDay_23 : decode cX0_readyDay 23 = .ok (.istore 4, 2) := by decide +kernel
theorem dX0_readyDay_25 : decode cX0_readyDay 25 = .ok (.iconst 0, 1) := by decide +kernel
theorem dX0_readyDay_26 : decode cX0_readyDay 26 = .ok (.istore 5, 2) := by decide +kernel
theorem dX0_readyDay_28 : decode cX0_readyDay 28 = .ok (.iload_n 3, 1) := by decide +kernel
theorem dX0_readyDay_29 : decode cX0_readyDay 29 = .ok (.ifCond .le 22, 3) := by decide +kernel
theorem dX0_readyDay_32 : decode cX0_readyDay 32 = .ok (.iload 4, 2) := by decide +kernel
theorem dX0_readyDay_34 : decode cX0_readyDay 34 = .ok (.ifCond .gt 6, 3) := by decide +kernel
theorem dX0_readyDay_37 : decode cX0_readyDay 37 = .ok (.ldc 135, 2) := by decide +kernel
theorem dX0_readyDay_39 : decode cX0_readyDay 39 = .ok (.ireturn, 1) := by decide +kernel
theorem dX0_readyDay_40 : decode cX0_readyDay 40 = .ok (.iload_n 3, 1) := by decide +kernel
theorem dX0_readyDay_41 : decode cX0_readyDay 41 = .ok (.iload 4, 2) := by decide +kernel
theorem dX0_readyDay_43 : decode cX0_readyDay 43 = .ok (.iadd, 1) := by decide +kernel
theorem dX0_readyDay_44 : decode cX0_readyDay 44 = .ok (.iconst 1, 1) := by decide +kernel
theorem dX0_readyDay_45 : decode cX0_readyDay 45 = .ok (.isub, 1) := by decide +kernel
theorem dX0_readyDay_46 : decode cX0_readyDay 46 = .ok (.iload 4, 2) := by decide +kernel
theorem dX0_readyDay_48 : decode cX0_readyDay 48 = .ok (.idiv, 1) := by decide +kernel
theorem dX0_readyDay_49 : decode cX0_readyDay 49 = .ok (.istore 5, 2) := by decide +kernel
theorem dX0_readyDay_51 : decode cX0_readyDay 51 = .ok (.aload_n 0, 1) := by decide +kernel
theorem dX0_readyDay_52 : decode cX0_readyDay 52 = .ok (.getfield 25, 3) := by decide +kernel
theorem dX0_readyDay_55 : decode cX0_readyDay 55 = .ok (.getfield 70, 3) := by decide +kernel
theorem dX0_readyDay_58 : decode cX0_readyDay 58 = .ok (.iload_n 1, 1) := by decide +kernel
theorem dX0_readyDay_59 : decode cX0_readyDay 59 = .ok (.iaload, 1) := by decide +kernel
theorem dX0_readyDay_60 : decode cX0_readyDay 60 = .ok (.iload 5, 2) := by decide +kernel
theorem dX0_readyDay_62 : decode cX0_readyDay 62 = .ok (.aload_n 0, 1) := by decide +kernel
theorem dX0_readyDay_63 : decode cX0_readyDay 63 = .ok (.getfield 18, 3) := by decide +kernel
theorem dX0_readyDay_66 : decode cX0_readyDay 66 = .ok (.getfield 86, 3) := by decide +kernel
theorem dX0_readyDay_69 : decode cX0_readyDay 69 = .ok (.iload_n 2, 1) := by decide +kernel
theorem dX0_readyDay_70 : decode cX0_readyDay 70 = .ok (.iaload, 1) := by decide +kernel
theorem dX0_readyDay_71 : decode cX0_readyDay 71 = .ok (.invokestatic 136, 3) := by decide +kernel
theorem dX0_readyDay_74 : decode cX0_readyDay 74 = .ok (.iadd, 1) := by decide +kernel
theorem dX0_readyDay_75 : decode cX0_readyDay 75 = .ok (.ireturn, 1) := by decide +kernel
set_option maxRecDepth 20000 in
theorem ggX0_heatNow_X0_today : GoodIn wsX0_heatNow wsX0_today := goodIn_r _ [15, 16, 17, 18, 19, 20] (by decide +kernel) (by decide +kernel)
set_option maxRecDepth 20000 in
theorem gX0_heatNow_X0_today : GoodIn wsX0_heatNow (wsV RX0 73 RX0 yX0_today wsX0_today) := goodIn_app (goodIn_of _ (by decide +kernel)) ggX0_heatNow_X0_today
theorem dX0_heatNow_0 : decode cX0_heatNow 0 = .ok (.aload_n 0, 1) := by decide +kernel
theorem dX0_heatNow_1 : decode cX0_heatNow 1 = .ok (.getfield 25, 3) := by decide +kernel
theorem dX0_heatNow_4 : decode cX0_heatNow 4 = .ok (.getfield 61, 3) := by decide +kernel
theorem dX0_heatNow_7 : decode cX0_heatNow 7 = .ok (.iload_n 1, 1) := by decide +kernel
theorem dX0_heatNow_8 : decode cX0_heatNow 8 = .ok (.iaload, 1) := by decide +kernel
theorem dX0_heatNow_9 : decode cX0_heatNow 9 = .ok (.iconst 1, 1) := by decide +kernel
theorem dX0_heatNow_10 : decode cX0_heatNow 10 = .ok (.if_icmp .ne 13, 3) := by decide +kernel
theorem dX0_heatNow_13 : decode cX0_heatNow 13 = .ok (.aload_n 0, 1) := by decide +kernel
theorem dX0_heatNow_14 : decode cX0_heatNow 14 = .ok (.getfield 25, 3) := by decide +kernel
theorem dX0_heatNow_17 : decode cX0_heatNow 17 = .ok (.getfield 120, 3) := by decide +kernel
theorem dX0_heatNow_20 : decode cX0_heatNow 20 = .ok (.iload_n 1, 1) := by decide +kernel
theorem dX0_heatNow_21 : decode cX0_heatNow 21 = .ok (.iaload, 1) := by decide +kernel
theorem dX0_heatNow_22 : decode cX0_heatNow 22 = .ok (.ireturn, 1) := by decide +kernel
theorem dX0_heatNow_23 : decode cX0_heatNow 23 = .ok (.aload_n 0, 1) := by decide +kernel
theorem dX0_heatNow_24 : decode cX0_heatNow 24 = .ok (.invokevirtual 73, 3) := by decide +kernel
theorem dX0_heatNow_27 : decode cX0_heatNow 27 = .ok (.aload_n 0, 1) := by decide +kernel
theorem dX0_heatNow_28 : decode cX0_heatNow 28 = .ok (.getfield 25, 3) := by decide +kernel
theorem dX0_heatNow_31 : decode cX0_heatNow 31 = .ok (.getfield 70, 3) := by decide +kernel
theorem dX0_heatNow_34 : decode cX0_heatNow 34 = .ok (.iload_n 1, 1) := by decide +kernel
theorem dX0_heatNow_35 : decode cX0_heatNow 35 = .ok (.iaload, 1) := by decide +kernel
theorem dX0_heatNow_36 : decode cX0_heatNow 36 = .ok (.isub, 1) := by decide +kernel
theorem dX0_heatNow_37 : decode cX0_heatNow 37 = .ok (.istore_n 2, 1) := by decide +kernel
theorem dX0_heatNow_38 : decode cX0_heatNow 38 = .ok (.iconst 0, 1) := by decide +kernel
theorem dX0_heatNow_39 : decode cX0_heatNow 39 = .ok (.aload_n 0, 1) := by decide +kernel
theorem dX0_heatNow_40 : decode cX0_heatNow 40 = .ok (.getfield 25, 3) := by decide +kernel
theorem dX0_heatNow_43 : decode cX0_heatNow 43 = .ok (.getfield 67, 3) := by decide +kernel
theorem dX0_heatNow_46 : decode cX0_heatNow 46 = .ok (.iload_n 1, 1) := by decide +kernel
theorem dX0_heatNow_47 : decode cX0_heatNow 47 = .ok (.iaload, 1) := by decide +kernel
theorem dX0_heatNow_48 : decode cX0_heatNow 48 = .ok (.aload_n 0, 1) := by decide +kernel
theorem dX0_heatNow_49 : decode cX0_heatNow 49 = .ok (.getfield 9, 3) := by decide +kernel
theorem dX0_heatNow_52 : decode cX0_heatNow 52 = .ok (.iconst 2, 1) := by decide +kernel
theorem dX0_heatNow_53 : decode cX0_heatNow 53 = .ok (.iaload, 1) := by decide +kernel
theorem dX0_heatNow_54 : decode cX0_heatNow 54 = .ok (.iload_n 2, 1) := by decide +kernel
theorem dX0_heatNow_55 : decode cX0_heatNow 55 = .ok (.imul, 1) := by decide +kernel
theorem dX0_heatNow_56 : decode cX0_heatNow 56 = .ok (.isub, 1) := by decide +kernel
theorem dX0_heatNow_57 : decode cX0_heatNow 57 = .ok (.invokestatic 136, 3) := by decide +kernel
theorem dX0_heatNow_60 : decode cX0_heatNow 60 = .ok (.ireturn, 1) := by decide +kernel
set_option maxRecDepth 20000 in
theorem ggX0_heatInDrawer_X3_lies : GoodIn wsX0_heatInDrawer wsX3_lies := goodIn_r _ [7, 8, 9, 33, 34, 35, 36, 37, 38, 39, 40] (by decide +kernel) (by decide +kernel)
set_option maxRecDepth 20000 in
theorem gX0_heatInDrawer_X3_lies : GoodIn wsX0_heatInDrawer (wsV RX0 128 RX3 yX3_lies wsX3_lies) := goodIn_app (goodIn_of _ (by decide +kernel)) ggX0_heatInDrawer_X3_lies
set_option maxRecDepth 20000 in
theorem ggX0_heatInDrawer_X0_heatNow : GoodIn wsX0_heatInDrawer wsX0_heatNow := goodIn_r _ [14, 1, 15, 16, 17, 18, 19, 20, 21, 22, 23, 24, 25, 26, 13, 27, 28, 29, 30, 31, 32, 33, 34, 35, 36, 37, 38, 39, 40] (by decide +kernel) (by decide +kernel)
set_option maxRecDepth 20000 in
theorem gX0_heatInDrawer_X0_heatNow : GoodIn wsX0_heatInDrawer (wsV RX0 101 RX0 yX0_heatNow wsX0_heatNow) := goodIn_app (goodIn_of _ (by decide +kernel)) ggX0_heatInDrawer_X0_heatNow
theorem dX0_heatInDrawer_0 : decode cX0_heatInDrawer 0 = .ok (.iconst 0, 1) := by decide +kernel
theorem dX0_heatInDrawer_1 : decode cX0_heatInDrawer 1 = .ok (.istore_n 2, 1) := by decide +kernel
theorem dX0_heatInDrawer_2 : decode cX0_heatInDrawer 2 = .ok (.iconst 0, 1) := by decide +kernel
theorem dX0_heatInDrawer_3 : decode cX0_heatInDrawer 3 = .ok (.istore_n 3, 1) := by decide +kernel
theorem dX0_heatInDrawer_4 : decode cX0_heatInDrawer 4 = .ok (.iload_n 3, 1) := by decide +kernel
theorem dX0_heatInDrawer_5 : decode cX0_heatInDrawer 5 = .ok (.aload_n 0, 1) := by decide +kernel
theorem dX0_heatInDrawer_6 : decode cX0_heatInDrawer 6 = .ok (.getfield 25, 3) := by decide +kernel
theorem dX0_heatInDrawer_9 : decode cX0_heatInDrawer 9 = .ok (.getfield 54, 3) := by decide +kernel
theorem dX0_heatInDrawer_12 : decode cX0_heatInDrawer 12 = .ok (.if_icmp .ge 29, 3) := by decide +kernel
theorem dX0_heatInDrawer_15 : decode cX0_heatInDrawer 15 = .ok (.aload_n 0, 1) := by decide +kernel
theorem dX0_heatInDrawer_16 : decode cX0_heatInDrawer 16 = .ok (.getfield 25, 3) := by decide +kernel
theorem dX0_heatInDrawer_19 : decode cX0_heatInDrawer 19 = .ok (.iload_n 3, 1) := by decide +kernel
theorem dX0_heatInDrawer_20 : decode cX0_heatInDrawer 20 = .ok (.iload_n 1, 1) := by decide +kernel
theorem dX0_heatInDrawer_21 : decode cX0_heatInDrawer 21 = .ok (.invokevirtual 128, 3) := by decide +kernel
theorem dX0_heatInDrawer_24 : decode cX0_heatInDrawer 24 = .ok (.ifCond .eq 11, 3) := by decide +kernel
theorem dX0_heatInDrawer_27 : decode cX0_heatInDrawer 27 = .ok (.iload_n 2, 1) := by decide +kernel
theorem dX0_heatInDrawer_28 : decode cX0_heatInDrawer 28 = .ok (.aload_n 0, 1) := by decide +kernel
theorem dX0_heatInDrawer_29 : decode cX0_heatInDrawer 29 = .ok (.iload_n 3, 1) := by decide +kernel
theorem dX0_heatInDrawer_30 : decode cX0_heatInDrawer 30 = .ok (.invokevirtual 101, 3) := by decide +kernel
theorem dX0_heatInDrawer_33 : decode cX0_heatInDrawer 33 = .ok (.iadd, 1) := by decide +kernel
theorem dX0_heatInDrawer_34 : decode cX0_heatInDrawer 34 = .ok (.istore_n 2, 1) := by decide +kernel
theorem dX0_heatInDrawer_35 : decode cX0_heatInDrawer 35 = .ok (.iinc 3 1, 3) := by decide +kernel
theorem dX0_heatInDrawer_38 : decode cX0_heatInDrawer 38 = .ok (.goto (-34), 3) := by decide +kernel
theorem dX0_heatInDrawer_41 : decode cX0_heatInDrawer 41 = .ok (.iload_n 2, 1) := by decide +kernel
theorem dX0_heatInDrawer_42 : decode cX0_heatInDrawer 42 = .ok (.ireturn, 1) := by decide +kernel
set_option maxRecDepth 20000 in
theorem ggX0_hoursTillSent_X6_isMood : GoodIn wsX0_hoursTillSent wsX6_isMood := goodIn_r _ [11] (by decide +kernel) (by decide +kernel)
set_option maxRecDepth 20000 in
theorem gX0_hoursTillSent_X6_isMood_n47 : GoodIn wsX0_hoursTillSent (wsX6_isMood) := ggX0_hoursTillSent_X6_isMood
set_option maxRecDepth 20000 in
theorem ggX0_hoursTillSent_X0_readyDay : GoodIn wsX0_hoursTillSent wsX0_readyDay := goodIn_r _ [16, 1, 17, 18, 19, 20, 8, 21, 4, 5, 6, 7, 38, 39, 40, 41, 42, 43, 44, 45, 46, 47, 48, 49, 50, 51, 52, 53] (by decide +kernel) (by decide +kernel)
set_option maxRecDepth 20000 in
theorem gX0_hoursTillSent_X0_readyDay : GoodIn wsX0_hoursTillSent (wsV RX0 132 RX0 yX0_readyDay wsX0_readyDay) := goodIn_app (goodIn_of _ (by decide +kernel)) ggX0_hoursTillSent_X0_readyDay
set_option maxRecDepth 20000 in
theorem ggX0_hoursTillSent_J9_floorMod_7cf53 : GoodIn wsX0_hoursTillSent wsJ9_floorMod_7cf53 := goodIn_r _ [25] (by decide +kernel) (by decide +kernel)
set_option maxRecDepth 20000 in
theorem gX0_hoursTillSent_J9_floorMod_7cf53 : GoodIn wsX0_hoursTillSent (va_wsS RX0 141 yJ9_floorMod_7cf53 wsJ9_floorMod_7cf53) := goodIn_app (goodIn_of _ (by decide +kernel)) ggX0_hoursTillSent_J9_floorMod_7cf53
set_option maxRecDepth 20000 in
theorem ggX0_hoursTillSent_X1_isLockedAt : GoodIn wsX0_hoursTillSent wsX1_isLockedAt := goodIn_r _ [30, 31, 32, 33, 34, 35, 6, 36, 37, 23, 24, 25, 50, 51, 52, 53] (by decide +kernel) (by decide +kernel)
set_option maxRecDepth 20000 in
theorem gX0_hoursTillSent_X1_isLockedAt : GoodIn wsX0_hoursTillSent (wsV RX0 144 RX1 yX1_isLockedAt wsX1_isLockedAt) := goodIn_app (goodIn_of _ (by decide +kernel)) ggX0_hoursTillSent_X1_isLockedAt
theorem dX0_hoursTillSent_0 : decode cX0_hoursTillSent 0 = .ok (.aload_n 0, 1) := by decide +kernel
theorem dX0_hoursTillSent_1 : decode cX0_hoursTillSent 1 = .ok (.getfield 25, 3) := by decide +kernel
theorem dX0_hoursTillSent_4 : decode cX0_hoursTillSent 4 = .ok (.getfield 64, 3) := by decide +kernel
theorem dX0_hoursTillSent_7 : decode cX0_hoursTillSent 7 = .ok (.iload_n 1, 1) := by decide +kernel
theorem dX0_hoursTillSent_8 : decode cX0_hoursTillSent 8 = .ok (.iaload, 1) := by decide +kernel
theorem dX0_hoursTillSent_9 : decode cX0_hoursTillSent 9 = .ok (.istore 4, 2) := by decide +kernel
theorem dX0_hoursTillSent_11 : decode cX0_hoursTillSent 11 = .ok (.iload 4, 2) := by decide +kernel
theorem dX0_hoursTillSent_13 : decode cX0_hoursTillSent 13 = .ok (.invokestatic 47, 3) := by decide +kernel
theorem dX0_hoursTillSent_16 : decode cX0_hoursTillSent 16 = .ok (.ifCond .ne 6, 3) := by decide +kernel
theorem dX0_hoursTillSent_19 : decode cX0_hoursTillSent 19 = .ok (.bipush (-6), 2) := by decide +kernel
theorem dX0_hoursTillSent_21 : decode cX0_hoursTillSent 21 = .ok (.ireturn, 1) := by decide +kernel
theorem dX0_hoursTillSent_22 : decode cX0_hoursTillSent 22 = .ok (.aload_n 0, 1) := by decide +kernel
theorem dX0_hoursTillSent_23 : decode cX0_hoursTillSent 23 = .ok (.getfield 33, 3) := by decide +kernel
theorem dX0_hoursTillSent_26 : decode cX0_hoursTillSent 26 = .ok (.aload_n 0, 1) := by decide +kernel
theorem dX0_hoursTillSent_27 : decode cX0_hoursTillSent 27 = .ok (.iload_n 1, 1) := by decide +kernel
theorem dX0_hoursTillSent_28 : decode cX0_hoursTillSent 28 = .ok (.iload 4, 2) := by decide +kernel
theorem dX0_hoursTillSent_30 : decode cX0_hoursTillSent 30 = .ok (.invokevirtual 132, 3) := by decide +kernel
theorem dX0_hoursTillSent_33 : decode cX0_hoursTillSent 33 = .ok (.bipush 24, 2) := by decide +kernel
theorem dX0_hoursTillSent_35 : decode cX0_hoursTillSent 35 = .ok (.imul, 1) := by decide +kernel
theorem dX0_hoursTillSent_36 : decode cX0_hoursTillSent 36 = .ok (.invokestatic 136, 3) := by decide +kernel
theorem dX0_hoursTillSent_39 : decode cX0_hoursTillSent 39 = .ok (.istore 5, 2) := by decide +kernel
theorem dX0_hoursTillSent_41 : decode cX0_hoursTillSent 41 = .ok (.iload 5, 2) := by decide +kernel
theorem dX0_hoursTillSent_43 : decode cX0_hoursTillSent 43 = .ok (.iload_n 2, 1) := by decide +kernel
theorem dX0_hoursTillSent_44 : decode cX0_hoursTillSent 44 = .ok (.iload 5, 2) := by decide +kernel
theorem dX0_hoursTillSent_46 : decode cX0_hoursTillSent 46 = .ok (.isub, 1) := by decide +kernel
theorem dX0_hoursTillSent_47 : decode cX0_hoursTillSent 47 = .ok (.bipush 24, 2) := by decide +kernel
theorem dX0_hoursTillSent_49 : decode cX0_hoursTillSent 49 = .ok (.invokestatic 141, 3) := by decide +kernel
theorem dX0_hoursTillSent_52 : decode cX0_hoursTillSent 52 = .ok (.iadd, 1) := by decide +kernel
theorem dX0_hoursTillSent_53 : decode cX0_hoursTillSent 53 = .ok (.istore 6, 2) := by decide +kernel
theorem dX0_hoursTillSent_55 : decode cX0_hoursTillSent 55 = .ok (.iconst 0, 1) := by decide +kernel
theorem dX0_hoursTillSent_56 : decode cX0_hoursTillSent 56 = .ok (.istore 7, 2) := by decide +kernel
theorem dX0_hoursTillSent_58 : decode cX0_hoursTillSent 58 = .ok (.iload 7, 2) := by decide +kernel
theorem dX0_hoursTillSent_60 : decode cX0_hoursTillSent 60 = .ok (.iconst 2, 1) := by decide +kernel
theorem dX0_hoursTillSent_61 : decode cX0_hoursTillSent 61 = .ok (.if_icmp .ge 54, 3) := by decide +kernel
theorem dX0_hoursTillSent_64 : decode cX0_hoursTillSent 64 = .ok (.iload 6, 2) := by decide +kernel
theorem dX0_hoursTillSent_66 : decode cX0_hoursTillSent 66 = .ok (.aload_n 0, 1) := by decide +kernel
theorem dX0_hoursTillSent_67 : decode cX0_hoursTillSent 67 = .ok (.getfield 33, 3) := by decide +kernel
theorem dX0_hoursTillSent_70 : decode cX0_hoursTillSent 70 = .ok (.isub, 1) := by decide +kernel
theorem dX0_hoursTillSent_71 : decode cX0_hoursTillSent 71 = .ok (.iload_n 3, 1) := by decide +kernel
theorem dX0_hoursTillSent_72 : decode cX0_hoursTillSent 72 = .ok (.if_icmp .lt 6, 3) := by decide +kernel
theorem dX0_hoursTillSent_75 : decode cX0_hoursTillSent 75 = .ok (.bipush (-6), 2) := by decide +kernel
theorem dX0_hoursTillSent_77 : decode cX0_hoursTillSent 77 = .ok (.ireturn, 1) := by decide +kernel
theorem dX0_hoursTillSent_78 : decode cX0_hoursTillSent 78 = .ok (.aload_n 0, 1) := by decide +kernel
theorem dX0_hoursTillSent_79 : decode cX0_hoursTillSent 79 = .ok (.getfield 18, 3) := by decide +kernel
theorem dX0_hoursTillSent_82 : decode cX0_hoursTillSent 82 = .ok (.iload 4, 2) := by decide +kernel
theorem dX0_hoursTillSent_84 : decode cX0_hoursTillSent 84 = .ok (.aload_n 0, 1) := by decide +kernel
theorem dX0_hoursTillSent_85 : decode cX0_hoursTillSent 85 = .ok (.getfield 33, 3) := by decide +kernel
theorem dX0_hoursTillSent_88 : decode cX0_hoursTillSent 88 = .ok (.iload 6, 2) := by decide +kernel
theorem dX0_hoursTillSent_90 : decode cX0_hoursTillSent 90 = .ok (.invokevirtual 144, 3) := by decide +kernel
theorem dX0_hoursTillSent_93 : decode cX0_hoursTillSent 93 = .ok (.ifCond .ne 13, 3) := by decide +kernel
theorem dX0_hoursTillSent_96 : decode cX0_hoursTillSent 96 = .ok (.iload 6, 2) := by decide +kernel
theorem dX0_hoursTillSent_98 : decode cX0_hoursTillSent 98 = .ok (.aload_n 0, 1) := by decide +kernel
theorem dX0_hoursTillSent_99 : decode cX0_hoursTillSent 99 = .ok (.getfield 33, 3) := by decide +kernel
theorem dX0_hoursTillSent_102 : decode cX0_hoursTillSent 102 = .ok (.isub, 1) := by decide +kernel
theorem dX0_hoursTillSent_103 : decode cX0_hoursTillSent 103 = .ok (.iconst 1, 1) := by decide +kernel
theorem dX0_hoursTillSent_104 : decode cX0_hoursTillSent 104 = .ok (.iadd, 1) := by decide +kernel
theorem dX0_hoursTillSent_105 : decode cX0_hoursTillSent 105 = .ok (.ireturn, 1) := by decide +kernel
theorem dX0_hoursTillSent_106 : decode cX0_hoursTillSent 106 = .ok (.iinc 6 24, 3) := by decide +kernel
theorem dX0_hoursTillSent_109 : decode cX0_hoursTillSent 109 = .ok (.iinc 7 1, 3) := by decide +kernel
theorem dX0_hoursTillSent_112 : decode cX0_hoursTillSent 112 = .ok (.goto (-54), 3) := by decide +kernel
theorem dX0_hoursTillSent_115 : decode cX0_hoursTillSent 115 = .ok (.bipush (-6), 2) := by decide +kernel
theorem dX0_hoursTillSent_117 : decode cX0_hoursTillSent 117 = .ok (.ireturn, 1) := by decide +kernel
set_option maxRecDepth 20000 in
theorem ggX0_sentWithin_X0_hoursTillSent : GoodIn wsX0_sentWithin wsX0_hoursTillSent := goodIn_r _ [8, 1, 9, 10, 11, 12, 13, 14, 15, 16, 17, 18, 19, 20, 21, 7, 22, 23, 24, 25, 26, 27, 28, 29, 30, 31, 32, 33, 34, 35, 36, 37, 38, 39, 40, 41, 42, 43, 44, 45, 46, 47, 48, 49, 50, 51, 52, 53, 54, 55, 56, 57, 58, 59] (by decide +kernel) (by decide +kernel)
set_option maxRecDepth 20000 in
theorem gX0_sentWithin_X0_hoursTillSent : GoodIn wsX0_sentWithin (wsV RX0 148 RX0 yX0_hoursTillSent wsX0_hoursTillSent) := goodIn_app (goodIn_of _ (by decide +kernel)) ggX0_sentWithin_X0_hoursTillSent
theorem dX0_sentWithin_0 : decode cX0_sentWithin 0 = .ok (.iconst 0, 1) := by decide +kernel
theorem dX0_sentWithin_1 : decode cX0_sentWithin 1 = .ok (.istore_n 3, 1) := by decide +kernel
theorem dX0_sentWithin_2 : decode cX0_sentWithin 2 = .ok (.iconst 0, 1) := by decide +kernel
theorem dX0_sentWithin_3 : decode cX0_sentWithin 3 = .ok (.istore 4, 2) := by decide +kernel
theorem dX0_sentWithin_5 : decode cX0_sentWithin 5 = .ok (.iload 4, 2) := by decide +kernel
theorem dX0_sentWithin_7 : decode cX0_sentWithin 7 = .ok (.aload_n 0, 1) := by decide +kernel
theorem dX0_sentWithin_8 : decode cX0_sentWithin 8 = .ok (.getfield 25, 3) := by decide +kernel
theorem dX0_sentWithin_11 : decode cX0_sentWithin 11 = .ok (.getfield 54, 3) := by decide +kernel
theorem dX0_sentWithin_14 : decode cX0_sentWithin 14 = .ok (.if_icmp .ge 38, 3) := by decide +kernel
theorem dX0_sentWithin_17 : decode cX0_sentWithin 17 = .ok (.aload_n 0, 1) := by decide +kernel
theorem dX0_sentWithin_18 : decode cX0_sentWithin 18 = .ok (.getfield 25, 3) := by decide +kernel
theorem dX0_sentWithin_21 : decode cX0_sentWithin 21 = .ok (.getfield 61, 3) := by decide +kernel
theorem dX0_sentWithin_24 : decode cX0_sentWithin 24 = .ok (.iload 4, 2) := by decide +kernel
theorem dX0_sentWithin_26 : decode cX0_sentWithin 26 = .ok (.iaload, 1) := by decide +kernel
theorem dX0_sentWithin_27 : decode cX0_sentWithin 27 = .ok (.ifCond .ne 19, 3) := by decide +kernel
theorem dX0_sentWithin_30 : decode cX0_sentWithin 30 = .ok (.aload_n 0, 1) := by decide +kernel
theorem dX0_sentWithin_31 : decode cX0_sentWithin 31 = .ok (.iload 4, 2) := by decide +kernel
theorem dX0_sentWithin_33 : decode cX0_sentWithin 33 = .ok (.iload_n 1, 1) := by decide +kernel
theorem dX0_sentWithin_34 : decode cX0_sentWithin 34 = .ok (.iload_n 2, 1) := by decide +kernel
theorem dX0_sentWithin_35 : decode cX0_sentWithin 35 = .ok (.invokevirtual 148, 3) := by decide +kernel
theorem dX0_sentWithin_38 : decode cX0_sentWithin 38 = .ok (.bipush (-6), 2) := by decide +kernel
theorem dX0_sentWithin_40 : decode cX0_sentWithin 40 = .ok (.if_icmp .eq 6, 3) := by decide +kernel
theorem dX0_sentWithin_43 : decode cX0_sentWithin 43 = .ok (.iinc 3 1, 3) := by decide +kernel
theorem dX0_sentWithin_46 : decode cX0_sentWithin 46 = .ok (.iinc 4 1, 3) := by decide +kernel
theorem dX0_sentWithin_49 : decode cX0_sentWithin 49 = .ok (.goto (-44), 3) := by decide +kernel
theorem dX0_sentWithin_52 : decode cX0_sentWithin 52 = .ok (.iload_n 3, 1) := by decide +kernel
theorem dX0_sentWithin_53 : decode cX0_sentWithin 53 = .ok (.ireturn, 1) := by decide +kernel
theorem dX1_init_0 : decode cX1_init 0 = .ok (.aload_n 0, 1) := by decide +kernel
theorem dX1_init_1 : decode cX1_init 1 = .ok (.invokespecial 3, 3) := by decide +kernel
theorem dX1_init_4 : decode cX1_init 4 = .ok (.aload_n 0, 1) := by decide +kernel
theorem dX1_init_5 : decode cX1_init 5 = .ok (.bipush 6, 2) := by decide +kernel
theorem dX1_init_7 : decode cX1_init 7 = .ok (.newarray .int, 2) := by decide +kernel
theorem dX1_init_9 : decode cX1_init 9 = .ok (.dup, 1) := by decide +kernel
theorem dX1_init_10 : decode cX1_init 10 = .ok (.iconst 0, 1) := by decide +kernel
theorem dX1_init_11 : decode cX1_init 11 = .ok (.iconst 2, 1) := by decide +kernel
theorem dX1_init_12 : decode cX1_init 12 = .ok (.iastore, 1) := by decide +kernel
theorem dX1_init_13 : decode cX1_init 13 = .ok (.dup, 1) := by decide +kernel
theorem dX1_init_14 : decode cX1_init 14 = .ok (.iconst 1, 1) := by decide +kernel
theorem dX1_init_15 : decode cX1_init 15 = .ok (.iconst 2, 1) := by decide +kernel
theorem dX1_init_16 : decode cX1_init 16 = .ok (.iastore, 1) := by decide +kernel
theorem dX1_init_17 : decode cX1_init 17 = .ok (.dup, 1) := by decide +kernel
theorem dX1_init_18 : decode cX1_init 18 = .ok (.iconst 2, 1) := by decide +kernel
theorem dX1_init_19 : decode cX1_init 19 = .ok (.iconst 2, 1) := by decide +kernel
theorem dX1_init_20 : decode cX1_init 20 = .ok (.iastore, 1) := by decide +kernel
theorem dX1_init_21 : decode cX1_init 21 = .ok (.dup, 1) := by decide +kernel
theorem dX1_init_22 : decode cX1_init 22 = .ok (.iconst 3, 1) := by decide +kernel
theorem dX1_init_23 : decode cX1_init 23 = .ok (.iconst 2, 1) := by decide +kernel
theorem dX1_init_24 : decode cX1_init 24 = .ok (.iastore, 1) := by decide +kernel
theorem dX1_init_25 : decode cX1_init 25 = .ok (.dup, 1) := by decide +kernel
theorem dX1_init_26 : decode cX1_init 26 = .ok (.iconst 4, 1) := by decide +kernel
theorem dX1_init_27 : decode cX1_init 27 = .ok (.iconst 2, 1) := by decide +kernel
theorem dX1_init_28 : decode cX1_init 28 = .ok (.iastore, 1) := by decide +kernel
theorem dX1_init_29 : decode cX1_init 29 = .ok (.dup, 1) := by decide +kernel
theorem dX1_init_30 : decode cX1_init 30 = .ok (.iconst 5, 1) := by decide +kernel
theorem dX1_init_31 : decode cX1_init 31 = .ok (.iconst 2, 1) := by decide +kernel
theorem dX1_init_32 : decode cX1_init 32 = .ok (.iastore, 1) := by decide +kernel
theorem dX1_init_33 : decode cX1_init 33 = .ok (.putfield 9, 3) := by decide +kernel
theorem dX1_init_36 : decode cX1_init 36 = .ok (.aload_n 0, 1) := by decide +kernel
theorem dX1_init_37 : decode cX1_init 37 = .ok (.bipush 6, 2) := by decide +kernel
theorem dX1_init_39 : decode cX1_init 39 = .ok (.newarray .int, 2) := by decide +kernel
theorem dX1_init_41 : decode cX1_init 41 = .ok (.putfield 15, 3) := by decide +kernel
theorem dX1_init_44 : decode cX1_init 44 = .ok (.aload_n 0, 1) := by decide +kernel
theorem dX1_init_45 : decode cX1_init 45 = .ok (.bipush 6, 2) := by decide +kernel
theorem dX1_init_47 : decode cX1_init 47 = .ok (.newarray .int, 2) := by decide +kernel
theorem dX1_init_49 : decode cX1_init 49 = .ok (.dup, 1) := by decide +kernel
theorem dX1_init_50 : decode cX1_init 50 = .ok (.iconst 0, 1) := by decide +kernel
theorem dX1_init_51 : decode cX1_init 51 = .ok (.bipush (-6), 2) := by decide +kernel
theorem dX1_init_53 : decode cX1_init 53 = .ok (.iastore, 1) := by decide +kernel
theorem dX1_init_54 : decode cX1_init 54 = .ok (.dup, 1) := by decide +kernel
theorem dX1_init_55 : decode cX1_init 55 = .ok (.iconst 1, 1) := by decide +kernel
theorem dX1_init_56 : decode cX1_init 56 = .ok (.bipush (-6), 2) := by decide +kernel
theorem dX1_init_58 : decode cX1_init 58 = .ok (.iastore, 1) := by decide +kernel
theorem dX1_init_59 : decode cX1_init 59 = .ok (.dup, 1) := by decide +kernel
theorem dX1_init_60 : decode cX1_init 60 = .ok (.iconst 2, 1) := by decide +kernel
theorem dX1_init_61 : decode cX1_init 61 = .ok (.bipush (-6), 2) := by decide +kernel
theorem dX1_init_63 : decode cX1_init 63 = .ok (.iastore, 1) := by decide +kernel
theorem dX1_init_64 : decode cX1_init 64 = .ok (.dup, 1) := by decide +kernel
theorem dX1_init_65 : decode cX1_init 65 = .ok (.iconst 3, 1) := by decide +kernel
theorem dX1_init_66 : decode cX1_init 66 = .ok (.bipush (-6), 2) := by decide +kernel
theorem dX1_init_68 : decode cX1_init 68 = .ok (.iastore, 1) := by decide +kernel
theorem dX1_init_69 : decode cX1_init 69 = .ok (.dup, 1) := by decide +kernel
theorem dX1_init_70 : decode cX1_init 70 = .ok (.iconst 4, 1) := by decide +kernel
theorem dX1_init_71 : decode cX1_init 71 = .ok (.bipush (-6), 2) := by decide +kernel
theorem dX1_init_73 : decode cX1_init 73 = .ok (.iastore, 1) := by decide +kernel
theorem dX1_init_74 : decode cX1_init 74 = .ok (.dup, 1) := by decide +kernel
theorem dX1_init_75 : decode cX1_init 75 = .ok (.iconst 5, 1) := by decide +kernel
theorem dX1_init_76 : decode cX1_init 76 = .ok (.bipush (-6), 2) := by decide +kernel
theorem dX1_init_78 : decode cX1_init 78 = .ok (.iastore, 1) := by decide +kernel
theorem dX1_init_79 : decode cX1_init 79 = .ok (.putfield 18, 3) := by decide +kernel
theorem dX1_init_82 : decode cX1_init 82 = .ok (.aload_n 0, 1) := by decide +kernel
theorem dX1_init_83 : decode cX1_init 83 = .ok (.bipush 6, 2) := by decide +kernel
theorem dX1_init_85 : decode cX1_init 85 = .ok (.newarray .int, 2) := by decide +kernel
theorem dX1_init_87 : decode cX1_init 87 = .ok (.dup, 1) := by decide +kernel
theorem dX1_init_88 : decode cX1_init 88 = .ok (.iconst 0, 1) := by decide +kernel
theorem dX1_init_89 : decode cX1_init 89 = .ok (.bipush (-6), 2) := by decide +kernel
theorem dX1_init_91 : decode cX1_init 91 = .ok (.iastore, 1) := by decide +kernel
theorem dX1_init_92 : decode cX1_init 92 = .ok (.dup, 1) := by decide +kernel
theorem dX1_init_93 : decode cX1_init 93 = .ok (.iconst 1, 1) := by decide +kernel
theorem dX1_init_94 : decode cX1_init 94 = .ok (.bipush (-6), 2) := by decide +kernel
theorem dX1_init_96 : decode cX1_init 96 = .ok (.iastore, 1) := by decide +kernel
theorem dX1_init_97 : decode cX1_init 97 = .ok (.dup, 1) := by decide +kernel
theorem dX1_init_98 : decode cX1_init 98 = .ok (.iconst 2, 1) := by decide +kernel
theorem dX1_init_99 : decode cX1_init 99 = .ok (.bipush (-6), 2) := by decide +kernel
theorem dX1_init_101 : decode cX1_init 101 = .ok (.iastore, 1) := by decide +kernel
theorem dX1_init_102 : decode cX1_init 102 = .ok (.dup, 1) := by decide +kernel
theorem dX1_init_103 : decode cX1_init 103 = .ok (.iconst 3, 1) := by decide +kernel
theorem dX1_init_104 : decode cX1_init 104 = .ok (.bipush (-6), 2) := by decide +kernel
theorem dX1_init_106 : decode cX1_init 106 = .ok (.iastore, 1) := by decide +kernel
theorem dX1_init_107 : decode cX1_init 107 = .ok (.dup, 1) := by decide +kernel
theorem dX1_init_108 : decode cX1_init 108 = .ok (.iconst 4, 1) := by decide +kernel
theorem dX1_init_109 : decode cX1_init 109 = .ok (.bipush (-6), 2) := by decide +kernel
theorem dX1_init_111 : decode cX1_init 111 = .ok (.iastore, 1) := by decide +kernel
theorem dX1_init_112 : decode cX1_init 112 = .ok (.dup, 1) := by decide +kernel
theorem dX1_init_113 : decode cX1_init 113 = .ok (.iconst 5, 1) := by decide +kernel
theorem dX1_init_114 : decode cX1_init 114 = .ok (.bipush (-6), 2) := by decide +kernel
theorem dX1_init_116 : decode cX1_init 116 = .ok (.iastore, 1) := by decide +kernel
theorem dX1_init_117 : decode cX1_init 117 = .ok (.putfield 21, 3) := by decide +kernel
theorem dX1_init_120 : decode cX1_init 120 = .ok (.return_, 1) := by decide +kernel
set_option maxRecDepth 20000 in
theorem ggX1_copyFrom_X6_copy : GoodIn wsX1_copyFrom wsX6_copy := goodIn_r _ [7, 8, 9, 10, 11, 12, 13, 14, 15] (by decide +kernel) (by decide +kernel)
set_option maxRecDepth 20000 in
theorem gX1_copyFrom_X6_copy_n24 : GoodIn wsX1_copyFrom (wsX6_copy) := ggX1_copyFrom_X6_copy
theorem dX1_copyFrom_0 : decode cX1_copyFrom 0 = .ok (.aload_n 1, 1) := by decide +kernel
theorem dX1_copyFrom_1 : decode cX1_copyFrom 1 = .ok (.getfield 9, 3) := by decide +kernel
theorem dX1_copyFrom_4 : decode cX1_copyFrom 4 = .ok (.aload_n 0, 1) := by decide +kernel
theorem dX1_copyFrom_5 : decode cX1_copyFrom 5 = .ok (.getfield 9, 3) := by decide +kernel
theorem dX1_copyFrom_8 : decode cX1_copyFrom 8 = .ok (.invokestatic 24, 3) := by decide +kernel
theorem dX1_copyFrom_11 : decode cX1_copyFrom 11 = .ok (.aload_n 1, 1) := by decide +kernel
theorem dX1_copyFrom_12 : decode cX1_copyFrom 12 = .ok (.getfield 15, 3) := by decide +kernel
theorem dX1_copyFrom_15 : decode cX1_copyFrom 15 = .ok (.aload_n 0, 1) := by decide +kernel
theorem dX1_copyFrom_16 : decode cX1_copyFrom 16 = .ok (.getfield 15, 3) := by decide +kernel
theorem dX1_copyFrom_19 : decode cX1_copyFrom 19 = .ok (.invokestatic 24, 3) := by decide +kernel
theorem dX1_copyFrom_22 : decode cX1_copyFrom 22 = .ok (.aload_n 1, 1) := by decide +kernel
theorem dX1_copyFrom_23 : decode cX1_copyFrom 23 = .ok (.getfield 18, 3) := by decide +kernel
theorem dX1_copyFrom_26 : decode cX1_copyFrom 26 = .ok (.aload_n 0, 1) := by decide +kernel
theorem dX1_copyFrom_27 : decode cX1_copyFrom 27 = .ok (.getfield 18, 3) := by decide +kernel
theorem dX1_copyFrom_30 : decode cX1_copyFrom 30 = .ok (.invokestatic 24, 3) := by decide +kernel
theorem dX1_copyFrom_33 : decode cX1_copyFrom 33 = .ok (.aload_n 1, 1) := by decide +kernel
theorem dX1_copyFrom_34 : decode cX1_copyFrom 34 = .ok (.getfield 21, 3) := by decide +kernel
theorem dX1_copyFrom_37 : decode cX1_copyFrom 37 = .ok (.aload_n 0, 1) := by decide +kernel
theorem dX1_copyFrom_38 : decode cX1_copyFrom 38 = .ok (.getfield 21, 3) := by decide +kernel
theorem dX1_copyFrom_41 : decode cX1_copyFrom 41 = .ok (.invokestatic 24, 3) := by decide +kernel
theorem dX1_copyFrom_44 : decode cX1_copyFrom 44 = .ok (.return_, 1) := by decide +kernel
theorem dX1_howManyLocked_0 : decode cX1_howManyLocked 0 = .ok (.iconst 0, 1) := by decide +kernel
theorem dX1_howManyLocked_1 : decode cX1_howManyLocked 1 = .ok (.istore_n 1, 1) := by decide +kernel
theorem dX1_howManyLocked_2 : decode cX1_howManyLocked 2 = .ok (.iconst 0, 1) := by decide +kernel
theorem dX1_howManyLocked_3 : decode cX1_howManyLocked 3 = .ok (.istore_n 2, 1) := by decide +kernel
theorem dX1_howManyLocked_4 : decode cX1_howManyLocked 4 = .ok (.iload_n 2, 1) := by decide +kernel
theorem dX1_howManyLocked_5 : decode cX1_howManyLocked 5 = .ok (.bipush 6, 2) := by decide +kernel
theorem dX1_howManyLocked_7 : decode cX1_howManyLocked 7 = .ok (.if_icmp .ge 18, 3) := by decide +kernel
theorem dX1_howManyLocked_10 : decode cX1_howManyLocked 10 = .ok (.iload_n 1, 1) := by decide +kernel
theorem dX1_howManyLocked_11 : decode cX1_howManyLocked 11 = .ok (.aload_n 0, 1) := by decide +kernel
theorem dX1_howManyLocked_12 : decode cX1_howManyLocked 12 = .ok (.getfield 15, 3) := by decide +kernel
theorem dX1_howManyLocked_15 : decode cX1_howManyLocked 15 = .ok (.iload_n 2, 1) := by decide +kernel
theorem dX1_howManyLocked_16 : decode cX1_howManyLocked 16 = .ok (.iaload, 1) := by decide +kernel
theorem dX1_howManyLocked_17 : decode cX1_howManyLocked 17 = .ok (.iadd, 1) := by decide +kernel
theorem dX1_howManyLocked_18 : decode cX1_howManyLocked 18 = .ok (.istore_n 1, 1) := by decide +kernel
theorem dX1_howManyLocked_19 : decode cX1_howManyLocked 19 = .ok (.iinc 2 1, 3) := by decide +kernel
theorem dX1_howManyLocked_22 : decode cX1_howManyLocked 22 = .ok (.goto (-18), 3) := by decide +kernel
theorem dX1_howManyLocked_25 : decode cX1_howManyLocked 25 = .ok (.iload_n 1, 1) := by decide +kernel
theorem dX1_howManyLocked_26 : decode cX1_howManyLocked 26 = .ok (.ireturn, 1) := by decide +kernel
theorem dX1_turnKeysBy_0 : decode cX1_turnKeysBy 0 = .ok (.iconst 0, 1) := by decide +kernel
theorem dX1_turnKeysBy_1 : decode cX1_turnKeysBy 1 = .ok (.istore_n 2, 1) := by decide +kernel
theorem dX1_turnKeysBy_2 : decode cX1_turnKeysBy 2 = .ok (.iload_n 2, 1) := by decide +kernel
theorem dX1_turnKeysBy_3 : decode cX1_turnKeysBy 3 = .ok (.bipush 6, 2) := by decide +kernel
theorem dX1_turnKeysBy_5 : decode cX1_turnKeysBy 5 = .ok (.if_icmp .ge 43, 3) := by decide +kernel
theorem dX1_turnKeysBy_8 : decode cX1_turnKeysBy 8 = .ok (.aload_n 0, 1) := by decide +kernel
theorem dX1_turnKeysBy_9 : decode cX1_turnKeysBy 9 = .ok (.getfield 18, 3) := by decide +kernel
theorem dX1_turnKeysBy_12 : decode cX1_turnKeysBy 12 = .ok (.iload_n 2, 1) := by decide +kernel
theorem dX1_turnKeysBy_13 : decode cX1_turnKeysBy 13 = .ok (.iaload, 1) := by decide +kernel
theorem dX1_turnKeysBy_14 : decode cX1_turnKeysBy 14 = .ok (.iload_n 1, 1) := by decide +kernel
theorem dX1_turnKeysBy_15 : decode cX1_turnKeysBy 15 = .ok (.if_icmp .ne 10, 3) := by decide +kernel
theorem dX1_turnKeysBy_18 : decode cX1_turnKeysBy 18 = .ok (.aload_n 0, 1) := by decide +kernel
theorem dX1_turnKeysBy_19 : decode cX1_turnKeysBy 19 = .ok (.getfield 15, 3) := by decide +kernel
theorem dX1_turnKeysBy_22 : decode cX1_turnKeysBy 22 = .ok (.iload_n 2, 1) := by decide +kernel
theorem dX1_turnKeysBy_23 : decode cX1_turnKeysBy 23 = .ok (.iconst 0, 1) := by decide +kernel
theorem dX1_turnKeysBy_24 : decode cX1_turnKeysBy 24 = .ok (.iastore, 1) := by decide +kernel
theorem dX1_turnKeysBy_25 : decode cX1_turnKeysBy 25 = .ok (.aload_n 0, 1) := by decide +kernel
theorem dX1_turnKeysBy_26 : decode cX1_turnKeysBy 26 = .ok (.getfield 21, 3) := by decide +kernel
theorem dX1_turnKeysBy_29 : decode cX1_turnKeysBy 29 = .ok (.iload_n 2, 1) := by decide +kernel
theorem dX1_turnKeysBy_30 : decode cX1_turnKeysBy 30 = .ok (.iaload, 1) := by decide +kernel
theorem dX1_turnKeysBy_31 : decode cX1_turnKeysBy 31 = .ok (.iload_n 1, 1) := by decide +kernel
theorem dX1_turnKeysBy_32 : decode cX1_turnKeysBy 32 = .ok (.if_icmp .ne 10, 3) := by decide +kernel
theorem dX1_turnKeysBy_35 : decode cX1_turnKeysBy 35 = .ok (.aload_n 0, 1) := by decide +kernel
theorem dX1_turnKeysBy_36 : decode cX1_turnKeysBy 36 = .ok (.getfield 15, 3) := by decide +kernel
theorem dX1_turnKeysBy_39 : decode cX1_turnKeysBy 39 = .ok (.iload_n 2, 1) := by decide +kernel
theorem dX1_turnKeysBy_40 : decode cX1_turnKeysBy 40 = .ok (.iconst 1, 1) := by decide +kernel
theorem dX1_turnKeysBy_41 : decode cX1_turnKeysBy 41 = .ok (.iastore, 1) := by decide +kernel
theorem dX1_turnKeysBy_42 : decode cX1_turnKeysBy 42 = .ok (.iinc 2 1, 3) := by decide +kernel
theorem dX1_turnKeysBy_45 : decode cX1_turnKeysBy 45 = .ok (.goto (-43), 3) := by decide +kernel
theorem dX1_turnKeysBy_48 : decode cX1_turnKeysBy 48 = .ok (.return_, 1) := by decide +kernel
set_option maxRecDepth 20000 in
theorem ggX1_isLockedAt_J9_floorMod_7cf53 : GoodIn wsX1_isLockedAt wsJ9_floorMod_7cf53 := goodIn_r _ [11] (by decide +kernel) (by decide +kernel)
set_option maxRecDepth 20000 in
theorem gX1_isLockedAt_J9_floorMod_7cf53 : GoodIn wsX1_isLockedAt (va_wsS RX1 28 yJ9_floorMod_7cf53 wsJ9_floorMod_7cf53) := goodIn_app (goodIn_of _ (by decide +kernel)) ggX1_isLockedAt_J9_floorMod_7cf53
theorem dX1_isLockedAt_0 : decode cX1_isLockedAt 0 = .ok (.aload_n 0, 1) := by decide +kernel
theorem dX1_isLockedAt_1 : decode cX1_isLockedAt 1 = .ok (.getfield 18, 3) := by decide +kernel
theorem dX1_isLockedAt_4 : decode cX1_isLockedAt 4 = .ok (.iload_n 1, 1) := by decide +kernel
theorem dX1_isLockedAt_5 : decode cX1_isLockedAt 5 = .ok (.iaload, 1) := by decide +kernel
theorem dX1_isLockedAt_6 : decode cX1_isLockedAt 6 = .ok (.bipush (-6), 2) := by decide +kernel
theorem dX1_isLockedAt_8 : decode cX1_isLockedAt 8 = .ok (.if_icmp .ne 19, 3) := by decide +kernel
theorem dX1_isLockedAt_11 : decode cX1_isLockedAt 11 = .ok (.aload_n 0, 1) := by decide +kernel
theorem dX1_isLockedAt_12 : decode cX1_isLockedAt 12 = .ok (.getfield 15, 3) := by decide +kernel
theorem dX1_isLockedAt_15 : decode cX1_isLockedAt 15 = .ok (.iload_n 1, 1) := by decide +kernel
theorem dX1_isLockedAt_16 : decode cX1_isLockedAt 16 = .ok (.iaload, 1) := by decide +kernel
theorem dX1_isLockedAt_17 : decode cX1_isLockedAt 17 = .ok (.iconst 1, 1) := by decide +kernel
theorem dX1_isLockedAt_18 : decode cX1_isLockedAt 18 = .ok (.if_icmp .ne 7, 3) := by decide +kernel
theorem dX1_isLockedAt_21 : decode cX1_isLockedAt 21 = .ok (.iconst 1, 1) := by decide +kernel
theorem dX1_isLockedAt_22 : decode cX1_isLockedAt 22 = .ok (.goto 4, 3) := by decide +kernel
theorem dX1_isLockedAt_25 : decode cX1_isLockedAt 25 = .ok (.iconst 0, 1) := by decide +kernel
theorem dX1_isLockedAt_26 : decode cX1_isLockedAt 26 = .ok (.ireturn, 1) := by decide +kernel
theorem dX1_isLockedAt_27 : decode cX1_isLockedAt 27 = .ok (.iload_n 3, 1) := by decide +kernel
theorem dX1_isLockedAt_28 : decode cX1_isLockedAt 28 = .ok (.aload_n 0, 1) := by decide +kernel
theorem dX1_isLockedAt_29 : decode cX1_isLockedAt 29 = .ok (.getfield 18, 3) := by decide +kernel
theorem dX1_isLockedAt_32 : decode cX1_isLockedAt 32 = .ok (.iload_n 1, 1) := by decide +kernel
theorem dX1_isLockedAt_33 : decode cX1_isLockedAt 33 = .ok (.iaload, 1) := by decide +kernel
theorem dX1_isLockedAt_34 : decode cX1_isLockedAt 34 = .ok (.isub, 1) := by decide +kernel
theorem dX1_isLockedAt_35 : decode cX1_isLockedAt 35 = .ok (.bipush 24, 2) := by decide +kernel
theorem dX1_isLockedAt_37 : decode cX1_isLockedAt 37 = .ok (.invokestatic 28, 3) := by decide +kernel
theorem dX1_isLockedAt_40 : decode cX1_isLockedAt 40 = .ok (.istore 4, 2) := by decide +kernel
theorem dX1_isLockedAt_42 : decode cX1_isLockedAt 42 = .ok (.iload_n 3, 1) := by decide +kernel
theorem dX1_isLockedAt_43 : decode cX1_isLockedAt 43 = .ok (.aload_n 0, 1) := by decide +kernel
theorem dX1_isLockedAt_44 : decode cX1_isLockedAt 44 = .ok (.getfield 21, 3) := by decide +kernel
theorem dX1_isLockedAt_47 : decode cX1_isLockedAt 47 = .ok (.iload_n 1, 1) := by decide +kernel
theorem dX1_isLockedAt_48 : decode cX1_isLockedAt 48 = .ok (.iaload, 1) := by decide +kernel
theorem dX1_isLockedAt_49 : decode cX1_isLockedAt 49 = .ok (.isub, 1) := by decide +kernel
theorem dX1_isLockedAt_50 : decode cX1_isLockedAt 50 = .ok (.bipush 24, 2) := by decide +kernel
theorem dX1_isLockedAt_52 : decode cX1_isLockedAt 52 = .ok (.invokestatic 28, 3) := by decide +kernel
theorem dX1_isLockedAt_55 : decode cX1_isLockedAt 55 = .ok (.istore 5, 2) := by decide +kernel
theorem dX1_isLockedAt_57 : decode cX1_isLockedAt 57 = .ok (.iload 4, 2) := by decide +kernel
theorem dX1_isLockedAt_59 : decode cX1_isLockedAt 59 = .ok (.iload 5, 2) := by decide +kernel
theorem dX1_isLockedAt_61 : decode cX1_isLockedAt 61 = .ok (.invokestatic 34, 3) := by decide +kernel
theorem dX1_isLockedAt_64 : decode cX1_isLockedAt 64 = .ok (.iload_n 3, 1) := by decide +kernel
theorem dX1_isLockedAt_65 : decode cX1_isLockedAt 65 = .ok (.iload_n 2, 1) := by decide +kernel
theorem dX1_isLockedAt_66 : decode cX1_isLockedAt 66 = .ok (.isub, 1) := by decide +kernel
theorem dX1_isLockedAt_67 : decode cX1_isLockedAt 67 = .ok (.if_icmp .le 19, 3) := by decide +kernel
theorem dX1_isLockedAt_70 : decode cX1_isLockedAt 70 = .ok (.aload_n 0, 1) := by decide +kernel
theorem dX1_isLockedAt_71 : decode cX1_isLockedAt 71 = .ok (.getfield 15, 3) := by decide +kernel
theorem dX1_isLockedAt_74 : decode cX1_isLockedAt 74 = .ok (.iload_n 1, 1) := by decide +kernel
theorem dX1_isLockedAt_75 : decode cX1_isLockedAt 75 = .ok (.iaload, 1) := by decide +kernel
theorem dX1_isLockedAt_76 : decode cX1_isLockedAt 76 = .ok (.iconst 1, 1) := by decide +kernel
theorem dX1_isLockedAt_77 : decode cX1_isLockedAt 77 = .ok (.if_icmp .ne 7, 3) := by decide +kernel
theorem dX1_isLockedAt_80 : decode cX1_isLockedAt 80 = .ok (.iconst 1, 1) := by decide +kernel
theorem dX1_isLockedAt_81 : decode cX1_isLockedAt 81 = .ok (.goto 4, 3) := by decide +kernel
theorem dX1_isLockedAt_84 : decode cX1_isLockedAt 84 = .ok (.iconst 0, 1) := by decide +kernel
theorem dX1_isLockedAt_85 : decode cX1_isLockedAt 85 = .ok (.ireturn, 1) := by decide +kernel
theorem dX1_isLockedAt_86 : decode cX1_isLockedAt 86 = .ok (.iload 5, 2) := by decide +kernel
theorem dX1_isLockedAt_88 : decode cX1_isLockedAt 88 = .ok (.iload 4, 2) := by decide +kernel
theorem dX1_isLockedAt_90 : decode cX1_isLockedAt 90 = .ok (.if_icmp .ge 7, 3) := by decide +kernel
theorem dX1_isLockedAt_93 : decode cX1_isLockedAt 93 = .ok (.iconst 1, 1) := by decide +kernel
theorem dX1_isLockedAt_94 : decode cX1_isLockedAt 94 = .ok (.goto 4, 3) := by decide +kernel
theorem dX1_isLockedAt_97 : decode cX1_isLockedAt 97 = .ok (.iconst 0, 1) := by decide +kernel
theorem dX1_isLockedAt_98 : decode cX1_isLockedAt 98 = .ok (.ireturn, 1) := by decide +kernel
theorem dX2_init_0 : decode cX2_init 0 = .ok (.aload_n 0, 1) := by decide +kernel
theorem dX2_init_1 : decode cX2_init 1 = .ok (.invokespecial 3, 3) := by decide +kernel
theorem dX2_init_4 : decode cX2_init 4 = .ok (.aload_n 0, 1) := by decide +kernel
theorem dX2_init_5 : decode cX2_init 5 = .ok (.bipush 7, 2) := by decide +kernel
theorem dX2_init_7 : decode cX2_init 7 = .ok (.anewarray 9, 3) := by decide +kernel
theorem dX2_init_10 : decode cX2_init 10 = .ok (.putfield 11, 3) := by decide +kernel
theorem dX2_init_13 : decode cX2_init 13 = .ok (.return_, 1) := by decide +kernel
set_option maxRecDepth 20000 in
theorem ggX2_prepare_X0_init : GoodIn wsX2_prepare wsX0_init := goodIn_r _ [7, 8, 9, 10, 11, 12, 13, 14, 15, 16, 17, 18, 19, 20, 21, 22, 23, 24, 25, 26, 27, 28, 29, 30, 31, 32, 33, 34, 35, 36, 37, 65, 66, 67, 68, 69, 70, 71, 72, 73, 74, 75, 76, 77, 78, 79, 80] (by decide +kernel) (by decide +kernel)
set_option maxRecDepth 20000 in
theorem gX2_prepare_X0_init_n21 : GoodIn wsX2_prepare (wsX0_init) := ggX2_prepare_X0_init
set_option maxRecDepth 20000 in
theorem ggX2_prepare_X0_copyFrom : GoodIn wsX2_prepare wsX0_copyFrom := goodIn_r _ [41, 12, 42, 16, 20, 43, 44, 45, 46, 47, 48, 49, 50, 51, 52, 53, 54, 55, 56, 15, 57, 24, 25, 26, 27, 58, 59, 60, 19, 61, 62, 31, 32, 33, 34, 35, 36, 37, 65, 66, 67, 68, 69, 70, 71, 72, 73, 74, 75, 76, 77, 78, 79, 80] (by decide +kernel) (by decide +kernel)
set_option maxRecDepth 20000 in
theorem gX2_prepare_X0_copyFrom : GoodIn wsX2_prepare (wsV RX2 22 RX0 yX0_copyFrom wsX0_copyFrom) := goodIn_app (goodIn_of _ (by decide +kernel)) ggX2_prepare_X0_copyFrom
theorem dX2_prepare_0 : decode cX2_prepare 0 = .ok (.aload_n 0, 1) := by decide +kernel
theorem dX2_prepare_1 : decode cX2_prepare 1 = .ok (.getfield 11, 3) := by decide +kernel
theorem dX2_prepare_4 : decode cX2_prepare 4 = .ok (.aload_n 0, 1) := by decide +kernel
theorem dX2_prepare_5 : decode cX2_prepare 5 = .ok (.getfield 17, 3) := by decide +kernel
theorem dX2_prepare_8 : decode cX2_prepare 8 = .ok (.aaload, 1) := by decide +kernel
theorem dX2_prepare_9 : decode cX2_prepare 9 = .ok (.astore_n 2, 1) := by decide +kernel
theorem dX2_prepare_10 : decode cX2_prepare 10 = .ok (.aload_n 2, 1) := by decide +kernel
theorem dX2_prepare_11 : decode cX2_prepare 11 = .ok (.ifnonnull 21, 3) := by decide +kernel
theorem dX2_prepare_14 : decode cX2_prepare 14 = .ok (.new 9, 3) := by decide +kernel
theorem dX2_prepare_17 : decode cX2_prepare 17 = .ok (.dup, 1) := by decide +kernel
theorem dX2_prepare_18 : decode cX2_prepare 18 = .ok (.invokespecial 21, 3) := by decide +kernel
theorem dX2_prepare_21 : decode cX2_prepare 21 = .ok (.astore_n 2, 1) := by decide +kernel
theorem dX2_prepare_22 : decode cX2_prepare 22 = .ok (.aload_n 0, 1) := by decide +kernel
theorem dX2_prepare_23 : decode cX2_prepare 23 = .ok (.getfield 11, 3) := by decide +kernel
theorem dX2_prepare_26 : decode cX2_prepare 26 = .ok (.aload_n 0, 1) := by decide +kernel
theorem dX2_prepare_27 : decode cX2_prepare 27 = .ok (.getfield 17, 3) := by decide +kernel
theorem dX2_prepare_30 : decode cX2_prepare 30 = .ok (.aload_n 2, 1) := by decide +kernel
theorem dX2_prepare_31 : decode cX2_prepare 31 = .ok (.aastore, 1) := by decide +kernel
theorem dX2_prepare_32 : decode cX2_prepare 32 = .ok (.aload_n 2, 1) := by decide +kernel
theorem dX2_prepare_33 : decode cX2_prepare 33 = .ok (.aload_n 1, 1) := by decide +kernel
theorem dX2_prepare_34 : decode cX2_prepare 34 = .ok (.invokevirtual 22, 3) := by decide +kernel
theorem dX2_prepare_37 : decode cX2_prepare 37 = .ok (.return_, 1) := by decide +kernel
theorem dX2_keepPrepared_0 : decode cX2_keepPrepared 0 = .ok (.aload_n 0, 1) := by decide +kernel
theorem dX2_keepPrepared_1 : decode cX2_keepPrepared 1 = .ok (.getfield 17, 3) := by decide +kernel
theorem dX2_keepPrepared_4 : decode cX2_keepPrepared 4 = .ok (.bipush 6, 2) := by decide +kernel
theorem dX2_keepPrepared_6 : decode cX2_keepPrepared 6 = .ok (.if_icmp .ge 14, 3) := by decide +kernel
theorem dX2_keepPrepared_9 : decode cX2_keepPrepared 9 = .ok (.aload_n 0, 1) := by decide +kernel
theorem dX2_keepPrepared_10 : decode cX2_keepPrepared 10 = .ok (.dup, 1) := by decide +kernel
theorem dX2_keepPrepared_11 : decode cX2_keepPrepared 11 = .ok (.getfield 17, 3) := by decide +kernel
theorem dX2_keepPrepared_14 : decode cX2_keepPrepared 14 = .ok (.iconst 1, 1) := by decide +kernel
theorem dX2_keepPrepared_15 : decode cX2_keepPrepared 15 = .ok (.iadd, 1) := by decide +kernel
theorem dX2_keepPrepared_16 : decode cX2_keepPrepared 16 = .ok (.putfield 17, 3) := by decide +kernel
theorem dX2_keepPrepared_19 : decode cX2_keepPrepared 19 = .ok (.return_, 1) := by decide +kernel
theorem dX2_keepPrepared_20 : decode cX2_keepPrepared 20 = .ok (.aload_n 0, 1) := by decide +kernel
theorem dX2_keepPrepared_21 : decode cX2_keepPrepared 21 = .ok (.getfield 11, 3) := by decide +kernel
theorem dX2_keepPrepared_24 : decode cX2_keepPrepared 24 = .ok (.iconst 0, 1) := by decide +kernel
theorem dX2_keepPrepared_25 : decode cX2_keepPrepared 25 = .ok (.aaload, 1) := by decide +kernel
theorem dX2_keepPrepared_26 : decode cX2_keepPrepared 26 = .ok (.astore_n 1, 1) := by decide +kernel
theorem dX2_keepPrepared_27 : decode cX2_keepPrepared 27 = .ok (.iconst 0, 1) := by decide +kernel
theorem dX2_keepPrepared_28 : decode cX2_keepPrepared 28 = .ok (.istore_n 2, 1) := by decide +kernel
theorem dX2_keepPrepared_29 : decode cX2_keepPrepared 29 = .ok (.iload_n 2, 1) := by decide +kernel
theorem dX2_keepPrepared_30 : decode cX2_keepPrepared 30 = .ok (.bipush 6, 2) := by decide +kernel
theorem dX2_keepPrepared_32 : decode cX2_keepPrepared 32 = .ok (.if_icmp .ge 23, 3) := by decide +kernel
theorem dX2_keepPrepared_35 : decode cX2_keepPrepared 35 = .ok (.aload_n 0, 1) := by decide +kernel
theorem dX2_keepPrepared_36 : decode cX2_keepPrepared 36 = .ok (.getfield 11, 3) := by decide +kernel
theorem dX2_keepPrepared_39 : decode cX2_keepPrepared 39 = .ok (.iload_n 2, 1) := by decide +kernel
theorem dX2_keepPrepared_40 : decode cX2_keepPrepared 40 = .ok (.aload_n 0, 1) := by decide +kernel
theorem dX2_keepPrepared_41 : decode cX2_keepPrepared 41 = .ok (.getfield 11, 3) := by decide +kernel
theorem dX2_keepPrepared_44 : decode cX2_keepPrepared 44 = .ok (.iload_n 2, 1) := by decide +kernel
theorem dX2_keepPrepared_45 : decode cX2_keepPrepared 45 = .ok (.iconst 1, 1) := by decide +kernel
theorem dX2_keepPrepared_46 : decode cX2_keepPrepared 46 = .ok (.iadd, 1) := by decide +kernel
theorem dX2_keepPrepared_47 : decode cX2_keepPrepared 47 = .ok (.aaload, 1) := by decide +kernel
theorem dX2_keepPrepared_48 : decode cX2_keepPrepared 48 = .ok (.aastore, 1) := by decide +kernel
theorem dX2_keepPrepared_49 : decode cX2_keepPrepared 49 = .ok (.iinc 2 1, 3) := by decide +kernel
theorem dX2_keepPrepared_52 : decode cX2_keepPrepared 52 = .ok (.goto (-23), 3) := by decide +kernel
theorem dX2_keepPrepared_55 : decode cX2_keepPrepared 55 = .ok (.aload_n 0, 1) := by decide +kernel
theorem dX2_keepPrepared_56 : decode cX2_keepPrepared 56 = .ok (.getfield 11, 3) := by decide +kernel
theorem dX2_keepPrepared_59 : decode cX2_keepPrepared 59 = .ok (.bipush 6, 2) := by decide +kernel
theorem dX2_keepPrepared_61 : decode cX2_keepPrepared 61 = .ok (.aload_n 1, 1) := by decide +kernel
theorem dX2_keepPrepared_62 : decode cX2_keepPrepared 62 = .ok (.aastore, 1) := by decide +kernel
theorem dX2_keepPrepared_63 : decode cX2_keepPrepared 63 = .ok (.return_, 1) := by decide +kernel
set_option maxRecDepth 20000 in
theorem ggX2_takeBack_X0_copyFrom : GoodIn wsX2_takeBack wsX0_copyFrom := goodIn_r _ [7, 8, 9, 10, 11, 12, 13, 14, 15, 16, 17, 18, 19, 20, 21, 22, 23, 24, 25, 26, 27, 28, 29, 30, 31, 32, 33, 34, 35, 36, 37, 38, 39, 40, 41, 42, 43, 44, 47, 48, 49, 50, 51, 52, 53, 54, 55, 56, 57, 58, 59, 60, 61, 62] (by decide +kernel) (by decide +kernel)
set_option maxRecDepth 20000 in
theorem gX2_takeBack_X0_copyFrom : GoodIn wsX2_takeBack (wsV RX2 22 RX0 yX0_copyFrom wsX0_copyFrom) := goodIn_app (goodIn_of _ (by decide +kernel)) ggX2_takeBack_X0_copyFrom
theorem dX2_takeBack_0 : decode cX2_takeBack 0 = .ok (.aload_n 0, 1) := by decide +kernel
theorem dX2_takeBack_1 : decode cX2_takeBack 1 = .ok (.getfield 17, 3) := by decide +kernel
theorem dX2_takeBack_4 : decode cX2_takeBack 4 = .ok (.iconst 1, 1) := by decide +kernel
theorem dX2_takeBack_5 : decode cX2_takeBack 5 = .ok (.if_icmp .ge 5, 3) := by decide +kernel
theorem dX2_takeBack_8 : decode cX2_takeBack 8 = .ok (.iconst 0, 1) := by decide +kernel
theorem dX2_takeBack_9 : decode cX2_takeBack 9 = .ok (.ireturn, 1) := by decide +kernel
theorem dX2_takeBack_10 : decode cX2_takeBack 10 = .ok (.aload_n 0, 1) := by decide +kernel
theorem dX2_takeBack_11 : decode cX2_takeBack 11 = .ok (.getfield 11, 3) := by decide +kernel
theorem dX2_takeBack_14 : decode cX2_takeBack 14 = .ok (.aload_n 0, 1) := by decide +kernel
theorem dX2_takeBack_15 : decode cX2_takeBack 15 = .ok (.getfield 17, 3) := by decide +kernel
theorem dX2_takeBack_18 : decode cX2_takeBack 18 = .ok (.iconst 1, 1) := by decide +kernel
theorem dX2_takeBack_19 : decode cX2_takeBack 19 = .ok (.isub, 1) := by decide +kernel
theorem dX2_takeBack_20 : decode cX2_takeBack 20 = .ok (.aaload, 1) := by decide +kernel
theorem dX2_takeBack_21 : decode cX2_takeBack 21 = .ok (.astore_n 2, 1) := by decide +kernel
theorem dX2_takeBack_22 : decode cX2_takeBack 22 = .ok (.aload_n 2, 1) := by decide +kernel
theorem dX2_takeBack_23 : decode cX2_takeBack 23 = .ok (.ifnonnull 5, 3) := by decide +kernel
theorem dX2_takeBack_26 : decode cX2_takeBack 26 = .ok (.iconst 0, 1) := by decide +kernel
theorem dX2_takeBack_27 : decode cX2_takeBack 27 = .ok (.ireturn, 1) := by decide +kernel
theorem dX2_takeBack_28 : decode cX2_takeBack 28 = .ok (.aload_n 0, 1) := by decide +kernel
theorem dX2_takeBack_29 : decode cX2_takeBack 29 = .ok (.dup, 1) := by decide +kernel
theorem dX2_takeBack_30 : decode cX2_takeBack 30 = .ok (.getfield 17, 3) := by decide +kernel
theorem dX2_takeBack_33 : decode cX2_takeBack 33 = .ok (.iconst 1, 1) := by decide +kernel
theorem dX2_takeBack_34 : decode cX2_takeBack 34 = .ok (.isub, 1) := by decide +kernel
theorem dX2_takeBack_35 : decode cX2_takeBack 35 = .ok (.putfield 17, 3) := by decide +kernel
theorem dX2_takeBack_38 : decode cX2_takeBack 38 = .ok (.aload_n 1, 1) := by decide +kernel
theorem dX2_takeBack_39 : decode cX2_takeBack 39 = .ok (.aload_n 2, 1) := by decide +kernel
theorem dX2_takeBack_40 : decode cX2_takeBack 40 = .ok (.invokevirtual 22, 3) := by decide +kernel
theorem dX2_takeBack_43 : decode cX2_takeBack 43 = .ok (.iconst 1, 1) := by decide +kernel
theorem dX2_takeBack_44 : decode cX2_takeBack 44 = .ok (.ireturn, 1) := by decide +kernel
theorem dX3_init_0 : decode cX3_init 0 = .ok (.aload_n 0, 1) := by decide +kernel
theorem dX3_init_1 : decode cX3_init 1 = .ok (.invokespecial 3, 3) := by decide +kernel
theorem dX3_init_4 : decode cX3_init 4 = .ok (.aload_n 0, 1) := by decide +kernel
theorem dX3_init_5 : decode cX3_init 5 = .ok (.bipush 30, 2) := by decide +kernel
theorem dX3_init_7 : decode cX3_init 7 = .ok (.newarray .int, 2) := by decide +kernel
theorem dX3_init_9 : decode cX3_init 9 = .ok (.putfield 9, 3) := by decide +kernel
theorem dX3_init_12 : decode cX3_init 12 = .ok (.aload_n 0, 1) := by decide +kernel
theorem dX3_init_13 : decode cX3_init 13 = .ok (.bipush 30, 2) := by decide +kernel
theorem dX3_init_15 : decode cX3_init 15 = .ok (.newarray .int, 2) := by decide +kernel
theorem dX3_init_17 : decode cX3_init 17 = .ok (.putfield 15, 3) := by decide +kernel
theorem dX3_init_20 : decode cX3_init 20 = .ok (.aload_n 0, 1) := by decide +kernel
theorem dX3_init_21 : decode cX3_init 21 = .ok (.bipush 30, 2) := by decide +kernel
theorem dX3_init_23 : decode cX3_init 23 = .ok (.newarray .int, 2) := by decide +kernel
theorem dX3_init_25 : decode cX3_init 25 = .ok (.putfield 18, 3) := by decide +kernel
theorem dX3_init_28 : decode cX3_init 28 = .ok (.aload_n 0, 1) := by decide +kernel
theorem dX3_init_29 : decode cX3_init 29 = .ok (.bipush 30, 2) := by decide +kernel
theorem dX3_init_31 : decode cX3_init 31 = .ok (.newarray .int, 2) := by decide +kernel
theorem dX3_init_33 : decode cX3_init 33 = .ok (.putfield 21, 3) := by decide +kernel
theorem dX3_init_36 : decode cX3_init 36 = .ok (.aload_n 0, 1) := by decide +kernel
theorem dX3_init_37 : decode cX3_init 37 = .ok (.bipush 30, 2) := by decide +kernel
theorem dX3_init_39 : decode cX3_init 39 = .ok (.newarray .int, 2) := by decide +kernel
theorem dX3_init_41 : decode cX3_init 41 = .ok (.putfield 24, 3) := by decide +kernel
theorem dX3_init_44 : decode cX3_init 44 = .ok (.aload_n 0, 1) := by decide +kernel
theorem dX3_init_45 : decode cX3_init 45 = .ok (.bipush 30, 2) := by decide +kernel
theorem dX3_init_47 : decode cX3_init 47 = .ok (.newarray .int, 2) := by decide +kernel
theorem dX3_init_49 : decode cX3_init 49 = .ok (.putfield 27, 3) := by decide +kernel
theorem dX3_init_52 : decode cX3_init 52 = .ok (.aload_n 0, 1) := by decide +kernel
theorem dX3_init_53 : decode cX3_init 53 = .ok (.bipush 30, 2) := by decide +kernel
theorem dX3_init_55 : decode cX3_init 55 = .ok (.newarray .int, 2) := by decide +kernel
theorem dX3_init_57 : decode cX3_init 57 = .ok (.putfield 30, 3) := by decide +kernel
theorem dX3_init_60 : decode cX3_init 60 = .ok (.return_, 1) := by decide +kernel
set_option maxRecDepth 20000 in
theorem ggX3_copyFrom_X6_copy : GoodIn wsX3_copyFrom wsX6_copy := goodIn_r _ [11, 12, 13, 14, 15, 16, 17, 18, 19] (by decide +kernel) (by decide +kernel)
set_option maxRecDepth 20000 in
theorem gX3_copyFrom_X6_copy_n37 : GoodIn wsX3_copyFrom (wsX6_copy) := ggX3_copyFrom_X6_copy
theorem dX3_copyFrom_0 : decode cX3_copyFrom 0 = .ok (.aload_n 0, 1) := by decide +kernel
theorem dX3_copyFrom_1 : decode cX3_copyFrom 1 = .ok (.aload_n 1, 1) := by decide +kernel
theorem dX3_copyFrom_2 : decode cX3_copyFrom 2 = .ok (.getfield 33, 3) := by decide +kernel
theorem dX3_copyFrom_5 : decode cX3_copyFrom 5 = .ok (.putfield 33, 3) := by decide +kernel
theorem dX3_copyFrom_8 : decode cX3_copyFrom 8 = .ok (.aload_n 1, 1) := by decide +kernel
theorem dX3_copyFrom_9 : decode cX3_copyFrom 9 = .ok (.getfield 9, 3) := by decide +kernel
theorem dX3_copyFrom_12 : decode cX3_copyFrom 12 = .ok (.aload_n 0, 1) := by decide +kernel
theorem dX3_copyFrom_13 : decode cX3_copyFrom 13 = .ok (.getfield 9, 3) := by decide +kernel
theorem dX3_copyFrom_16 : decode cX3_copyFrom 16 = .ok (.invokestatic 37, 3) := by decide +kernel
theorem dX3_copyFrom_19 : decode cX3_copyFrom 19 = .ok (.aload_n 1, 1) := by decide +kernel
theorem dX3_copyFrom_20 : decode cX3_copyFrom 20 = .ok (.getfield 15, 3) := by decide +kernel
theorem dX3_copyFrom_23 : decode cX3_copyFrom 23 = .ok (.aload_n 0, 1) := by decide +kernel
theorem dX3_copyFrom_24 : decode cX3_copyFrom 24 = .ok (.getfield 15, 3) := by decide +kernel
theorem dX3_copyFrom_27 : decode cX3_copyFrom 27 = .ok (.invokestatic 37, 3) := by decide +kernel
theorem dX3_copyFrom_30 : decode cX3_copyFrom 30 = .ok (.aload_n 1, 1) := by decide +kernel
theorem dX3_copyFrom_31 : decode cX3_copyFrom 31 = .ok (.getfield 18, 3) := by decide +kernel
theorem dX3_copyFrom_34 : decode cX3_copyFrom 34 = .ok (.aload_n 0, 1) := by decide +kernel
theorem dX3_copyFrom_35 : decode cX3_copyFrom 35 = .ok (.getfield 18, 3) := by decide +kernel
theorem dX3_copyFrom_38 : decode cX3_copyFrom 38 = .ok (.invokestatic 37, 3) := by decide +kernel
theorem dX3_copyFrom_41 : decode cX3_copyFrom 41 = .ok (.aload_n 1, 1) := by decide +kernel
theorem dX3_copyFrom_42 : decode cX3_copyFrom 42 = .ok (.getfield 21, 3) := by decide +kernel
theorem dX3_copyFrom_45 : decode cX3_copyFrom 45 = .ok (.aload_n 0, 1) := by decide +kernel
theorem dX3_copyFrom_46 : decode cX3_copyFrom 46 = .ok (.getfield 21, 3) := by decide +kernel
theorem dX3_copyFrom_49 : decode cX3_copyFrom 49 = .ok (.invokestatic 37, 3) := by decide +kernel
theorem dX3_copyFrom_52 : decode cX3_copyFrom 52 = .ok (.aload_n 1, 1) := by decide +kernel
theorem dX3_copyFrom_53 : decode cX3_copyFrom 53 = .ok (.getfield 24, 3) := by decide +kernel
theorem dX3_copyFrom_56 : decode cX3_copyFrom 56 = .ok (.aload_n 0, 1) := by decide +kernel
theorem dX3_copyFrom_57 : decode cX3_copyFrom 57 = .ok (.getfield 24, 3) := by decide +kernel
theorem dX3_copyFrom_60 : decode cX3_copyFrom 60 = .ok (.invokestatic 37, 3) := by decide +kernel
theorem dX3_copyFrom_63 : decode cX3_copyFrom 63 = .ok (.aload_n 1, 1) := by decide +kernel
theorem dX3_copyFrom_64 : decode cX3_copyFrom 64 = .ok (.getfield 27, 3) := by decide +kernel
theorem dX3_copyFrom_67 : decode cX3_copyFrom 67 = .ok (.aload_n 0, 1) := by decide +kernel
theorem dX3_copyFrom_68 : decode cX3_copyFrom 68 = .ok (.getfield 27, 3) := by decide +kernel
theorem dX3_copyFrom_71 : decode cX3_copyFrom 71 = .ok (.invokestatic 37, 3) := by decide +kernel
theorem dX3_copyFrom_74 : decode cX3_copyFrom 74 = .ok (.aload_n 1, 1) := by decide +kernel
theorem dX3_copyFrom_75 : decode cX3_copyFrom 75 = .ok (.getfield 30, 3) := by decide +kernel
theorem dX3_copyFrom_78 : decode cX3_copyFrom 78 = .ok (.aload_n 0, 1) := by decide +kernel
theorem dX3_copyFrom_79 : decode cX3_copyFrom 79 = .ok (.getfield 30, 3) := by decide +kernel
theorem dX3_copyFrom_82 : decode cX3_copyFrom 82 = .ok (.invokestatic 37, 3) := by decide +kernel
theorem dX3_copyFrom_85 : decode cX3_copyFrom 85 = .ok (.return_, 1) := by decide +kernel
theorem dX3_isLetter_0 : decode cX3_isLetter 0 = .ok (.iload_n 1, 1) := by decide +kernel
theorem dX3_isLetter_1 : decode cX3_isLetter 1 = .ok (.ifCond .lt 21, 3) := by decide +kernel
theorem dX3_isLetter_4 : decode cX3_isLetter 4 = .ok (.iload_n 1, 1) := by decide +kernel
theorem dX3_isLetter_5 : decode cX3_isLetter 5 = .ok (.aload_n 0, 1) := by decide +kernel
theorem dX3_isLetter_6 : decode cX3_isLetter 6 = .ok (.getfield 33, 3) := by decide +kernel
theorem dX3_isLetter_9 : decode cX3_isLetter 9 = .ok (.if_icmp .ge 13, 3) := by decide +kernel
theorem dX3_isLetter_12 : decode cX3_isLetter 12 = .ok (.iload_n 1, 1) := by decide +kernel
theorem dX3_isLetter_13 : decode cX3_isLetter 13 = .ok (.bipush 30, 2) := by decide +kernel
theorem dX3_isLetter_15 : decode cX3_isLetter 15 = .ok (.if_icmp .ge 7, 3) := by decide +kernel
theorem dX3_isLetter_18 : decode cX3_isLetter 18 = .ok (.iconst 1, 1) := by decide +kernel
theorem dX3_isLetter_19 : decode cX3_isLetter 19 = .ok (.goto 4, 3) := by decide +kernel
theorem dX3_isLetter_22 : decode cX3_isLetter 22 = .ok (.iconst 0, 1) := by decide +kernel
theorem dX3_isLetter_23 : decode cX3_isLetter 23 = .ok (.ireturn, 1) := by decide +kernel
theorem dX3_lies_0 : decode cX3_lies 0 = .ok (.aload_n 0, 1) := by decide +kernel
theorem dX3_lies_1 : decode cX3_lies 1 = .ok (.getfield 9, 3) := by decide +kernel
theorem dX3_lies_4 : decode cX3_lies 4 = .ok (.iload_n 1, 1) := by decide +kernel
theorem dX3_lies_5 : decode cX3_lies 5 = .ok (.iaload, 1) := by decide +kernel
theorem dX3_lies_6 : decode cX3_lies 6 = .ok (.iload_n 2, 1) := by decide +kernel
theorem dX3_lies_7 : decode cX3_lies 7 = .ok (.if_icmp .ne 16, 3) := by decide +kernel
theorem dX3_lies_10 : decode cX3_lies 10 = .ok (.aload_n 0, 1) := by decide +kernel
theorem dX3_lies_11 : decode cX3_lies 11 = .ok (.getfield 24, 3) := by decide +kernel
theorem dX3_lies_14 : decode cX3_lies 14 = .ok (.iload_n 1, 1) := by decide +kernel
theorem dX3_lies_15 : decode cX3_lies 15 = .ok (.iaload, 1) := by decide +kernel
theorem dX3_lies_16 : decode cX3_lies 16 = .ok (.ifCond .ne 7, 3) := by decide +kernel
theorem dX3_lies_19 : decode cX3_lies 19 = .ok (.iconst 1, 1) := by decide +kernel
theorem dX3_lies_20 : decode cX3_lies 20 = .ok (.goto 4, 3) := by decide +kernel
theorem dX3_lies_23 : decode cX3_lies 23 = .ok (.iconst 0, 1) := by decide +kernel
theorem dX3_lies_24 : decode cX3_lies 24 = .ok (.ireturn, 1) := by decide +kernel
theorem dX3_ofMood_0 : decode cX3_ofMood 0 = .ok (.iconst 0, 1) := by decide +kernel
theorem dX3_ofMood_1 : decode cX3_ofMood 1 = .ok (.istore_n 3, 1) := by decide +kernel
theorem dX3_ofMood_2 : decode cX3_ofMood 2 = .ok (.iconst 0, 1) := by decide +kernel
theorem dX3_ofMood_3 : decode cX3_ofMood 3 = .ok (.istore 4, 2) := by decide +kernel
theorem dX3_ofMood_5 : decode cX3_ofMood 5 = .ok (.iload 4, 2) := by decide +kernel
theorem dX3_ofMood_7 : decode cX3_ofMood 7 = .ok (.aload_n 0, 1) := by decide +kernel
theorem dX3_ofMood_8 : decode cX3_ofMood 8 = .ok (.getfield 33, 3) := by decide +kernel
theorem dX3_ofMood_11 : decode cX3_ofMood 11 = .ok (.if_icmp .ge 34, 3) := by decide +kernel
theorem dX3_ofMood_14 : decode cX3_ofMood 14 = .ok (.aload_n 0, 1) := by decide +kernel
theorem dX3_ofMood_15 : decode cX3_ofMood 15 = .ok (.getfield 9, 3) := by decide +kernel
theorem dX3_ofMood_18 : decode cX3_ofMood 18 = .ok (.iload 4, 2) := by decide +kernel
theorem dX3_ofMood_20 : decode cX3_ofMood 20 = .ok (.iaload, 1) := by decide +kernel
theorem dX3_ofMood_21 : decode cX3_ofMood 21 = .ok (.iload_n 1, 1) := by decide +kernel
theorem dX3_ofMood_22 : decode cX3_ofMood 22 = .ok (.if_icmp .ne 17, 3) := by decide +kernel
theorem dX3_ofMood_25 : decode cX3_ofMood 25 = .ok (.aload_n 0, 1) := by decide +kernel
theorem dX3_ofMood_26 : decode cX3_ofMood 26 = .ok (.getfield 24, 3) := by decide +kernel
theorem dX3_ofMood_29 : decode cX3_ofMood 29 = .ok (.iload 4, 2) := by decide +kernel
theorem dX3_ofMood_31 : decode cX3_ofMood 31 = .ok (.iaload, 1) := by decide +kernel
theorem dX3_ofMood_32 : decode cX3_ofMood 32 = .ok (.iload_n 2, 1) := by decide +kernel
theorem dX3_ofMood_33 : decode cX3_ofMood 33 = .ok (.if_icmp .ne 6, 3) := by decide +kernel
theorem dX3_ofMood_36 : decode cX3_ofMood 36 = .ok (.iinc 3 1, 3) := by decide +kernel
theorem dX3_ofMood_39 : decode cX3_ofMood 39 = .ok (.iinc 4 1, 3) := by decide +kernel
theorem dX3_ofMood_42 : decode cX3_ofMood 42 = .ok (.goto (-37), 3) := by decide +kernel
theorem dX3_ofMood_45 : decode cX3_ofMood 45 = .ok (.iload_n 3, 1) := by decide +kernel
theorem dX3_ofMood_46 : decode cX3_ofMood 46 = .ok (.ireturn, 1) := by decide +kernel
theorem dX3_setOf_0 : decode cX3_setOf 0 = .ok (.lconst 0, 1) := by decide +kernel
theorem dX3_setOf_1 : decode cX3_setOf 1 = .ok (.lstore_n 2, 1) := by decide +kernel
theorem dX3_setOf_2 : decode cX3_setOf 2 = .ok (.iconst 0, 1) := by decide +kernel
theorem dX3_setOf_3 : decode cX3_setOf 3 = .ok (.istore 4, 2) := by decide +kernel
theorem dX3_setOf_5 : decode cX3_setOf 5 = .ok (.iload 4, 2) := by decide +kernel
theorem dX3_setOf_7 : decode cX3_setOf 7 = .ok (.aload_n 0, 1) := by decide +kernel
theorem dX3_setOf_8 : decode cX3_setOf 8 = .ok (.getfield 33, 3) := by decide +kernel
theorem dX3_setOf_11 : decode cX3_setOf 11 = .ok (.if_icmp .ge 27, 3) := by decide +kernel
theorem dX3_setOf_14 : decode cX3_setOf 14 = .ok (.aload_n 0, 1) := by decide +kernel
theorem dX3_setOf_15 : decode cX3_setOf 15 = .ok (.getfield 24, 3) := by decide +kernel
theorem dX3_setOf_18 : decode cX3_setOf 18 = .ok (.iload 4, 2) := by decide +kernel
theorem dX3_setOf_20 : decode cX3_setOf 20 = .ok (.iaload, 1) := by decide +kernel
theorem dX3_setOf_21 : decode cX3_setOf 21 = .ok (.iload_n 1, 1) := by decide +kernel
theorem dX3_setOf_22 : decode cX3_setOf 22 = .ok (.if_icmp .ne 10, 3) := by decide +kernel
theorem dX3_setOf_25 : decode cX3_setOf 25 = .ok (.lload_n 2, 1) := by decide +kernel
theorem dX3_setOf_26 : decode cX3_setOf 26 = .ok (.lconst 1, 1) := by decide +kernel
theorem dX3_setOf_27 : decode cX3_setOf 27 = .ok (.iload 4, 2) := by decide +kernel
theorem dX3_setOf_29 : decode cX3_setOf 29 = .ok (.lshl, 1) := by decide +kernel
theorem dX3_setOf_30 : decode cX3_setOf 30 = .ok (.lor, 1) := by decide +kernel
theorem dX3_setOf_31 : decode cX3_setOf 31 = .ok (.lstore_n 2, 1) := by decide +kernel
theorem dX3_setOf_32 : decode cX3_setOf 32 = .ok (.iinc 4 1, 3) := by decide +kernel
theorem dX3_setOf_35 : decode cX3_setOf 35 = .ok (.goto (-30), 3) := by decide +kernel
theorem dX3_setOf_38 : decode cX3_setOf 38 = .ok (.lload_n 2, 1) := by decide +kernel
theorem dX3_setOf_39 : decode cX3_setOf 39 = .ok (.lreturn, 1) := by decide +kernel
theorem dX3_heatOfSent_0 : decode cX3_heatOfSent 0 = .ok (.iconst 0, 1) := by decide +kernel
theorem dX3_heatOfSent_1 : decode cX3_heatOfSent 1 = .ok (.istore_n 1, 1) := by decide +kernel
theorem dX3_heatOfSent_2 : decode cX3_heatOfSent 2 = .ok (.iconst 0, 1) := by decide +kernel
theorem dX3_heatOfSent_3 : decode cX3_heatOfSent 3 = .ok (.istore_n 2, 1) := by decide +kernel
theorem dX3_heatOfSent_4 : decode cX3_heatOfSent 4 = .ok (.iload_n 2, 1) := by decide +kernel
theorem dX3_heatOfSent_5 : decode cX3_heatOfSent 5 = .ok (.aload_n 0, 1) := by decide +kernel
theorem dX3_heatOfSent_6 : decode cX3_heatOfSent 6 = .ok (.getfield 33, 3) := by decide +kernel
theorem dX3_heatOfSent_9 : decode cX3_heatOfSent 9 = .ok (.if_icmp .ge 28, 3) := by decide +kernel
theorem dX3_heatOfSent_12 : decode cX3_heatOfSent 12 = .ok (.aload_n 0, 1) := by decide +kernel
theorem dX3_heatOfSent_13 : decode cX3_heatOfSent 13 = .ok (.getfield 24, 3) := by decide +kernel
end
section
theorem dX3_heatOfSent_16 : decode cX3_heatOfSent 16 = .ok (.iload_n 2, 1) := by decide +kernel
theorem dX3_heatOfSent_17 : decode cX3_heatOfSent 17 = .ok (.iaload, 1) := by decide +kernel
theorem dX3_heatOfSent_18 : decode cX3_heatOfSent 18 = .ok (.iconst 1, 1) := by decide +kernel
theorem dX3_heatOfSent_19 : decode cX3_heatOfSent 19 = .ok (.if_icmp .ne 12, 3) := by decide +kernel
theorem dX3_heatOfSent_22 : decode cX3_heatOfSent 22 = .ok (.iload_n 1, 1) := by decide +kernel
theorem dX3_heatOfSent_23 : decode cX3_heatOfSent 23 = .ok (.aload_n 0, 1) := by decide +kernel
theorem dX3_heatOfSent_24 : decode cX3_heatOfSent 24 = .ok (.getfield 30, 3) := by decide +kernel
theorem dX3_heatOfSent_27 : decode cX3_heatOfSent 27 = .ok (.iload_n 2, 1) := by decide +kernel
theorem dX3_heatOfSent_28 : decode cX3_heatOfSent 28 = .ok (.iaload, 1) := by decide +kernel
theorem dX3_heatOfSent_29 : decode cX3_heatOfSent 29 = .ok (.iadd, 1) := by decide +kernel
theorem dX3_heatOfSent_30 : decode cX3_heatOfSent 30 = .ok (.istore_n 1, 1) := by decide +kernel
theorem dX3_heatOfSent_31 : decode cX3_heatOfSent 31 = .ok (.iinc 2 1, 3) := by decide +kernel
theorem dX3_heatOfSent_34 : decode cX3_heatOfSent 34 = .ok (.goto (-30), 3) := by decide +kernel
theorem dX3_heatOfSent_37 : decode cX3_heatOfSent 37 = .ok (.iload_n 1, 1) := by decide +kernel
theorem dX3_heatOfSent_38 : decode cX3_heatOfSent 38 = .ok (.ireturn, 1) := by decide +kernel
theorem dX3_answersTo_0 : decode cX3_answersTo 0 = .ok (.iconst 0, 1) := by decide +kernel
theorem dX3_answersTo_1 : decode cX3_answersTo 1 = .ok (.istore_n 2, 1) := by decide +kernel
theorem dX3_answersTo_2 : decode cX3_answersTo 2 = .ok (.iconst 0, 1) := by decide +kernel
theorem dX3_answersTo_3 : decode cX3_answersTo 3 = .ok (.istore_n 3, 1) := by decide +kernel
theorem dX3_answersTo_4 : decode cX3_answersTo 4 = .ok (.iload_n 3, 1) := by decide +kernel
theorem dX3_answersTo_5 : decode cX3_answersTo 5 = .ok (.aload_n 0, 1) := by decide +kernel
theorem dX3_answersTo_6 : decode cX3_answersTo 6 = .ok (.getfield 33, 3) := by decide +kernel
theorem dX3_answersTo_9 : decode cX3_answersTo 9 = .ok (.if_icmp .ge 22, 3) := by decide +kernel
theorem dX3_answersTo_12 : decode cX3_answersTo 12 = .ok (.aload_n 0, 1) := by decide +kernel
theorem dX3_answersTo_13 : decode cX3_answersTo 13 = .ok (.getfield 21, 3) := by decide +kernel
theorem dX3_answersTo_16 : decode cX3_answersTo 16 = .ok (.iload_n 3, 1) := by decide +kernel
theorem dX3_answersTo_17 : decode cX3_answersTo 17 = .ok (.iaload, 1) := by decide +kernel
theorem dX3_answersTo_18 : decode cX3_answersTo 18 = .ok (.iload_n 1, 1) := by decide +kernel
theorem dX3_answersTo_19 : decode cX3_answersTo 19 = .ok (.if_icmp .ne 6, 3) := by decide +kernel
theorem dX3_answersTo_22 : decode cX3_answersTo 22 = .ok (.iinc 2 1, 3) := by decide +kernel
theorem dX3_answersTo_25 : decode cX3_answersTo 25 = .ok (.iinc 3 1, 3) := by decide +kernel
theorem dX3_answersTo_28 : decode cX3_answersTo 28 = .ok (.goto (-24), 3) := by decide +kernel
theorem dX3_answersTo_31 : decode cX3_answersTo 31 = .ok (.iload_n 2, 1) := by decide +kernel
theorem dX3_answersTo_32 : decode cX3_answersTo 32 = .ok (.ireturn, 1) := by decide +kernel
set_option maxRecDepth 20000 in
theorem ggX3_depthOf_X3_isLetter : GoodIn wsX3_depthOf wsX3_isLetter := goodIn_r _ [6, 7, 8, 9, 10, 11, 12, 13, 14, 15] (by decide +kernel) (by decide +kernel)
set_option maxRecDepth 20000 in
theorem gX3_depthOf_X3_isLetter : GoodIn wsX3_depthOf (wsV RX3 41 RX3 yX3_isLetter wsX3_isLetter) := goodIn_app (goodIn_of _ (by decide +kernel)) ggX3_depthOf_X3_isLetter
theorem dX3_depthOf_0 : decode cX3_depthOf 0 = .ok (.iconst 0, 1) := by decide +kernel
theorem dX3_depthOf_1 : decode cX3_depthOf 1 = .ok (.istore_n 2, 1) := by decide +kernel
theorem dX3_depthOf_2 : decode cX3_depthOf 2 = .ok (.aload_n 0, 1) := by decide +kernel
theorem dX3_depthOf_3 : decode cX3_depthOf 3 = .ok (.getfield 21, 3) := by decide +kernel
theorem dX3_depthOf_6 : decode cX3_depthOf 6 = .ok (.iload_n 1, 1) := by decide +kernel
theorem dX3_depthOf_7 : decode cX3_depthOf 7 = .ok (.iaload, 1) := by decide +kernel
theorem dX3_depthOf_8 : decode cX3_depthOf 8 = .ok (.istore_n 3, 1) := by decide +kernel
theorem dX3_depthOf_9 : decode cX3_depthOf 9 = .ok (.aload_n 0, 1) := by decide +kernel
theorem dX3_depthOf_10 : decode cX3_depthOf 10 = .ok (.iload_n 3, 1) := by decide +kernel
theorem dX3_depthOf_11 : decode cX3_depthOf 11 = .ok (.invokevirtual 41, 3) := by decide +kernel
theorem dX3_depthOf_14 : decode cX3_depthOf 14 = .ok (.ifCond .eq 22, 3) := by decide +kernel
theorem dX3_depthOf_17 : decode cX3_depthOf 17 = .ok (.iload_n 2, 1) := by decide +kernel
theorem dX3_depthOf_18 : decode cX3_depthOf 18 = .ok (.bipush 30, 2) := by decide +kernel
theorem dX3_depthOf_20 : decode cX3_depthOf 20 = .ok (.if_icmp .ge 16, 3) := by decide +kernel
theorem dX3_depthOf_23 : decode cX3_depthOf 23 = .ok (.iinc 2 1, 3) := by decide +kernel
theorem dX3_depthOf_26 : decode cX3_depthOf 26 = .ok (.aload_n 0, 1) := by decide +kernel
theorem dX3_depthOf_27 : decode cX3_depthOf 27 = .ok (.getfield 21, 3) := by decide +kernel
theorem dX3_depthOf_30 : decode cX3_depthOf 30 = .ok (.iload_n 3, 1) := by decide +kernel
theorem dX3_depthOf_31 : decode cX3_depthOf 31 = .ok (.iaload, 1) := by decide +kernel
theorem dX3_depthOf_32 : decode cX3_depthOf 32 = .ok (.istore_n 3, 1) := by decide +kernel
theorem dX3_depthOf_33 : decode cX3_depthOf 33 = .ok (.goto (-24), 3) := by decide +kernel
theorem dX3_depthOf_36 : decode cX3_depthOf 36 = .ok (.iload_n 2, 1) := by decide +kernel
theorem dX3_depthOf_37 : decode cX3_depthOf 37 = .ok (.ireturn, 1) := by decide +kernel
theorem dX4_init_0 : decode cX4_init 0 = .ok (.aload_n 0, 1) := by decide +kernel
theorem dX4_init_1 : decode cX4_init 1 = .ok (.invokespecial 3, 3) := by decide +kernel
theorem dX4_init_4 : decode cX4_init 4 = .ok (.aload_n 0, 1) := by decide +kernel
theorem dX4_init_5 : decode cX4_init 5 = .ok (.bipush 80, 2) := by decide +kernel
theorem dX4_init_7 : decode cX4_init 7 = .ok (.newarray .char, 2) := by decide +kernel
theorem dX4_init_9 : decode cX4_init 9 = .ok (.putfield 9, 3) := by decide +kernel
theorem dX4_init_12 : decode cX4_init 12 = .ok (.return_, 1) := by decide +kernel
theorem dX4_append_0 : decode cX4_append 0 = .ok (.aload_n 0, 1) := by decide +kernel
theorem dX4_append_1 : decode cX4_append 1 = .ok (.getfield 15, 3) := by decide +kernel
theorem dX4_append_4 : decode cX4_append 4 = .ok (.bipush 80, 2) := by decide +kernel
theorem dX4_append_6 : decode cX4_append 6 = .ok (.if_icmp .ge 23, 3) := by decide +kernel
theorem dX4_append_9 : decode cX4_append 9 = .ok (.aload_n 0, 1) := by decide +kernel
theorem dX4_append_10 : decode cX4_append 10 = .ok (.getfield 9, 3) := by decide +kernel
theorem dX4_append_13 : decode cX4_append 13 = .ok (.aload_n 0, 1) := by decide +kernel
theorem dX4_append_14 : decode cX4_append 14 = .ok (.getfield 15, 3) := by decide +kernel
theorem dX4_append_17 : decode cX4_append 17 = .ok (.iload_n 1, 1) := by decide +kernel
theorem dX4_append_18 : decode cX4_append 18 = .ok (.castore, 1) := by decide +kernel
theorem dX4_append_19 : decode cX4_append 19 = .ok (.aload_n 0, 1) := by decide +kernel
theorem dX4_append_20 : decode cX4_append 20 = .ok (.dup, 1) := by decide +kernel
theorem dX4_append_21 : decode cX4_append 21 = .ok (.getfield 15, 3) := by decide +kernel
theorem dX4_append_24 : decode cX4_append 24 = .ok (.iconst 1, 1) := by decide +kernel
theorem dX4_append_25 : decode cX4_append 25 = .ok (.iadd, 1) := by decide +kernel
theorem dX4_append_26 : decode cX4_append 26 = .ok (.putfield 15, 3) := by decide +kernel
theorem dX4_append_29 : decode cX4_append 29 = .ok (.return_, 1) := by decide +kernel
set_option maxRecDepth 20000 in
theorem ggX4_faultIndex_X4_readOrder : GoodIn wsX4_faultIndex wsX4_readOrder := goodIn_r _ [7, 8, 9, 10, 11, 12, 6, 13, 1, 2, 14, 15, 16, 17, 18, 19, 20, 21, 22, 23, 24, 25, 26, 27, 28, 29, 30, 31, 32, 33, 34, 35, 36, 37, 38, 39, 40, 41, 42, 43, 44, 45, 46, 47, 48, 49] (by decide +kernel) (by decide +kernel)
set_option maxRecDepth 20000 in
theorem gX4_faultIndex_X4_readOrder : GoodIn wsX4_faultIndex (wsV RX4 22 RX4 yX4_readOrder wsX4_readOrder) := goodIn_app (goodIn_of _ (by decide +kernel)) ggX4_faultIndex_X4_readOrder
set_option maxRecDepth 20000 in
theorem ggX4_faultIndex_X4_take : GoodIn wsX4_faultIndex wsX4_take := goodIn_r _ [18, 1, 10, 11, 12, 6, 13, 2, 14, 43, 44, 45, 46, 47, 48, 49] (by decide +kernel) (by decide +kernel)
set_option maxRecDepth 20000 in
theorem gX4_faultIndex_X4_take : GoodIn wsX4_faultIndex (wsV RX4 26 RX4 yX4_take wsX4_take) := goodIn_app (goodIn_of _ (by decide +kernel)) ggX4_faultIndex_X4_take
theorem dX4_faultIndex_0 : decode cX4_faultIndex 0 = .ok (.aload_n 0, 1) := by decide +kernel
theorem dX4_faultIndex_1 : decode cX4_faultIndex 1 = .ok (.iconst 0, 1) := by decide +kernel
theorem dX4_faultIndex_2 : decode cX4_faultIndex 2 = .ok (.putfield 19, 3) := by decide +kernel
theorem dX4_faultIndex_5 : decode cX4_faultIndex 5 = .ok (.iconst 0, 1) := by decide +kernel
theorem dX4_faultIndex_6 : decode cX4_faultIndex 6 = .ok (.istore_n 1, 1) := by decide +kernel
theorem dX4_faultIndex_7 : decode cX4_faultIndex 7 = .ok (.iload_n 1, 1) := by decide +kernel
theorem dX4_faultIndex_8 : decode cX4_faultIndex 8 = .ok (.bipush 80, 2) := by decide +kernel
theorem dX4_faultIndex_10 : decode cX4_faultIndex 10 = .ok (.if_icmp .ge 49, 3) := by decide +kernel
theorem dX4_faultIndex_13 : decode cX4_faultIndex 13 = .ok (.aload_n 0, 1) := by decide +kernel
theorem dX4_faultIndex_14 : decode cX4_faultIndex 14 = .ok (.invokevirtual 22, 3) := by decide +kernel
theorem dX4_faultIndex_17 : decode cX4_faultIndex 17 = .ok (.ifCond .ne 8, 3) := by decide +kernel
theorem dX4_faultIndex_20 : decode cX4_faultIndex 20 = .ok (.aload_n 0, 1) := by decide +kernel
theorem dX4_faultIndex_21 : decode cX4_faultIndex 21 = .ok (.getfield 19, 3) := by decide +kernel
theorem dX4_faultIndex_24 : decode cX4_faultIndex 24 = .ok (.ireturn, 1) := by decide +kernel
theorem dX4_faultIndex_25 : decode cX4_faultIndex 25 = .ok (.aload_n 0, 1) := by decide +kernel
theorem dX4_faultIndex_26 : decode cX4_faultIndex 26 = .ok (.getfield 19, 3) := by decide +kernel
theorem dX4_faultIndex_29 : decode cX4_faultIndex 29 = .ok (.aload_n 0, 1) := by decide +kernel
theorem dX4_faultIndex_30 : decode cX4_faultIndex 30 = .ok (.getfield 15, 3) := by decide +kernel
theorem dX4_faultIndex_33 : decode cX4_faultIndex 33 = .ok (.if_icmp .lt 6, 3) := by decide +kernel
theorem dX4_faultIndex_36 : decode cX4_faultIndex 36 = .ok (.bipush (-6), 2) := by decide +kernel
theorem dX4_faultIndex_38 : decode cX4_faultIndex 38 = .ok (.ireturn, 1) := by decide +kernel
theorem dX4_faultIndex_39 : decode cX4_faultIndex 39 = .ok (.aload_n 0, 1) := by decide +kernel
theorem dX4_faultIndex_40 : decode cX4_faultIndex 40 = .ok (.bipush 59, 2) := by decide +kernel
theorem dX4_faultIndex_42 : decode cX4_faultIndex 42 = .ok (.invokevirtual 26, 3) := by decide +kernel
theorem dX4_faultIndex_45 : decode cX4_faultIndex 45 = .ok (.ifCond .ne 8, 3) := by decide +kernel
theorem dX4_faultIndex_48 : decode cX4_faultIndex 48 = .ok (.aload_n 0, 1) := by decide +kernel
theorem dX4_faultIndex_49 : decode cX4_faultIndex 49 = .ok (.getfield 19, 3) := by decide +kernel
theorem dX4_faultIndex_52 : decode cX4_faultIndex 52 = .ok (.ireturn, 1) := by decide +kernel
theorem dX4_faultIndex_53 : decode cX4_faultIndex 53 = .ok (.iinc 1 1, 3) := by decide +kernel
theorem dX4_faultIndex_56 : decode cX4_faultIndex 56 = .ok (.goto (-49), 3) := by decide +kernel
theorem dX4_faultIndex_59 : decode cX4_faultIndex 59 = .ok (.aload_n 0, 1) := by decide +kernel
theorem dX4_faultIndex_60 : decode cX4_faultIndex 60 = .ok (.getfield 19, 3) := by decide +kernel
theorem dX4_faultIndex_63 : decode cX4_faultIndex 63 = .ok (.ireturn, 1) := by decide +kernel
set_option maxRecDepth 20000 in
theorem ggX4_readOrder_X4_next : GoodIn wsX4_readOrder wsX4_next := goodIn_r _ [7, 8, 9, 10, 39, 40, 41, 42, 43, 44, 45] (by decide +kernel) (by decide +kernel)
set_option maxRecDepth 20000 in
theorem gX4_readOrder_X4_next : GoodIn wsX4_readOrder (wsV RX4 30 RX4 yX4_next wsX4_next) := goodIn_app (goodIn_of _ (by decide +kernel)) ggX4_readOrder_X4_next
set_option maxRecDepth 20000 in
theorem ggX4_readOrder_X4_take : GoodIn wsX4_readOrder wsX4_take := goodIn_r _ [14, 8, 3, 4, 5, 6, 7, 9, 10, 39, 40, 41, 42, 43, 44, 45] (by decide +kernel) (by decide +kernel)
set_option maxRecDepth 20000 in
theorem gX4_readOrder_X4_take : GoodIn wsX4_readOrder (wsV RX4 26 RX4 yX4_take wsX4_take) := goodIn_app (goodIn_of _ (by decide +kernel)) ggX4_readOrder_X4_take
set_option maxRecDepth 20000 in
theorem ggX4_readOrder_X4_readMood : GoodIn wsX4_readOrder wsX4_readMood := goodIn_r _ [18, 19, 8, 3, 4, 5, 6, 7, 9, 10, 20, 21, 22, 39, 40, 41, 42, 43, 44, 45] (by decide +kernel) (by decide +kernel)
set_option maxRecDepth 20000 in
theorem gX4_readOrder_X4_readMood : GoodIn wsX4_readOrder (wsV RX4 40 RX4 yX4_readMood wsX4_readMood) := goodIn_app (goodIn_of _ (by decide +kernel)) ggX4_readOrder_X4_readMood
set_option maxRecDepth 20000 in
theorem ggX4_readOrder_X4_readFirst : GoodIn wsX4_readOrder wsX4_readFirst := goodIn_r _ [26, 27, 28, 29, 30, 6, 31, 8, 3, 4, 5, 7, 9, 10, 32, 33, 34, 39, 40, 41, 42, 43, 44, 45] (by decide +kernel) (by decide +kernel)
set_option maxRecDepth 20000 in
theorem gX4_readOrder_X4_readFirst : GoodIn wsX4_readOrder (wsV RX4 43 RX4 yX4_readFirst wsX4_readFirst) := goodIn_app (goodIn_of _ (by decide +kernel)) ggX4_readOrder_X4_readFirst
set_option maxRecDepth 20000 in
theorem ggX4_readOrder_X4_readSecond : GoodIn wsX4_readOrder wsX4_readSecond := goodIn_r _ [38, 2, 28, 29, 30, 6, 31, 8, 3, 4, 5, 7, 9, 10, 32, 33, 34, 39, 40, 41, 42, 43, 44, 45] (by decide +kernel) (by decide +kernel)
set_option maxRecDepth 20000 in
theorem gX4_readOrder_X4_readSecond : GoodIn wsX4_readOrder (wsV RX4 46 RX4 yX4_readSecond wsX4_readSecond) := goodIn_app (goodIn_of _ (by decide +kernel)) ggX4_readOrder_X4_readSecond
theorem dX4_readOrder_0 : decode cX4_readOrder 0 = .ok (.aload_n 0, 1) := by decide +kernel
theorem dX4_readOrder_1 : decode cX4_readOrder 1 = .ok (.aload_n 0, 1) := by decide +kernel
theorem dX4_readOrder_2 : decode cX4_readOrder 2 = .ok (.invokevirtual 30, 3) := by decide +kernel
theorem dX4_readOrder_5 : decode cX4_readOrder 5 = .ok (.putfield 34, 3) := by decide +kernel
theorem dX4_readOrder_8 : decode cX4_readOrder 8 = .ok (.aload_n 0, 1) := by decide +kernel
theorem dX4_readOrder_9 : decode cX4_readOrder 9 = .ok (.bipush (-6), 2) := by decide +kernel
theorem dX4_readOrder_11 : decode cX4_readOrder 11 = .ok (.putfield 37, 3) := by decide +kernel
theorem dX4_readOrder_14 : decode cX4_readOrder 14 = .ok (.aload_n 0, 1) := by decide +kernel
theorem dX4_readOrder_15 : decode cX4_readOrder 15 = .ok (.bipush 43, 2) := by decide +kernel
theorem dX4_readOrder_17 : decode cX4_readOrder 17 = .ok (.invokevirtual 26, 3) := by decide +kernel
theorem dX4_readOrder_20 : decode cX4_readOrder 20 = .ok (.ifCond .eq 48, 3) := by decide +kernel
theorem dX4_readOrder_23 : decode cX4_readOrder 23 = .ok (.aload_n 0, 1) := by decide +kernel
theorem dX4_readOrder_24 : decode cX4_readOrder 24 = .ok (.invokevirtual 40, 3) := by decide +kernel
theorem dX4_readOrder_27 : decode cX4_readOrder 27 = .ok (.ifCond .eq 39, 3) := by decide +kernel
theorem dX4_readOrder_30 : decode cX4_readOrder 30 = .ok (.aload_n 0, 1) := by decide +kernel
theorem dX4_readOrder_31 : decode cX4_readOrder 31 = .ok (.bipush 58, 2) := by decide +kernel
theorem dX4_readOrder_33 : decode cX4_readOrder 33 = .ok (.invokevirtual 26, 3) := by decide +kernel
theorem dX4_readOrder_36 : decode cX4_readOrder 36 = .ok (.ifCond .eq 30, 3) := by decide +kernel
theorem dX4_readOrder_39 : decode cX4_readOrder 39 = .ok (.aload_n 0, 1) := by decide +kernel
theorem dX4_readOrder_40 : decode cX4_readOrder 40 = .ok (.invokevirtual 43, 3) := by decide +kernel
theorem dX4_readOrder_43 : decode cX4_readOrder 43 = .ok (.ifCond .eq 23, 3) := by decide +kernel
theorem dX4_readOrder_46 : decode cX4_readOrder 46 = .ok (.aload_n 0, 1) := by decide +kernel
theorem dX4_readOrder_47 : decode cX4_readOrder 47 = .ok (.bipush 94, 2) := by decide +kernel
theorem dX4_readOrder_49 : decode cX4_readOrder 49 = .ok (.invokevirtual 26, 3) := by decide +kernel
theorem dX4_readOrder_52 : decode cX4_readOrder 52 = .ok (.ifCond .eq 10, 3) := by decide +kernel
theorem dX4_readOrder_55 : decode cX4_readOrder 55 = .ok (.aload_n 0, 1) := by decide +kernel
theorem dX4_readOrder_56 : decode cX4_readOrder 56 = .ok (.invokevirtual 46, 3) := by decide +kernel
theorem dX4_readOrder_59 : decode cX4_readOrder 59 = .ok (.ifCond .eq 7, 3) := by decide +kernel
theorem dX4_readOrder_62 : decode cX4_readOrder 62 = .ok (.iconst 1, 1) := by decide +kernel
theorem dX4_readOrder_63 : decode cX4_readOrder 63 = .ok (.goto 4, 3) := by decide +kernel
theorem dX4_readOrder_66 : decode cX4_readOrder 66 = .ok (.iconst 0, 1) := by decide +kernel
theorem dX4_readOrder_67 : decode cX4_readOrder 67 = .ok (.ireturn, 1) := by decide +kernel
theorem dX4_readOrder_68 : decode cX4_readOrder 68 = .ok (.aload_n 0, 1) := by decide +kernel
theorem dX4_readOrder_69 : decode cX4_readOrder 69 = .ok (.bipush 107, 2) := by decide +kernel
theorem dX4_readOrder_71 : decode cX4_readOrder 71 = .ok (.invokevirtual 26, 3) := by decide +kernel
theorem dX4_readOrder_74 : decode cX4_readOrder 74 = .ok (.ifCond .eq 8, 3) := by decide +kernel
theorem dX4_readOrder_77 : decode cX4_readOrder 77 = .ok (.aload_n 0, 1) := by decide +kernel
theorem dX4_readOrder_78 : decode cX4_readOrder 78 = .ok (.invokevirtual 40, 3) := by decide +kernel
theorem dX4_readOrder_81 : decode cX4_readOrder 81 = .ok (.ireturn, 1) := by decide +kernel
theorem dX4_readOrder_82 : decode cX4_readOrder 82 = .ok (.aload_n 0, 1) := by decide +kernel
theorem dX4_readOrder_83 : decode cX4_readOrder 83 = .ok (.bipush 116, 2) := by decide +kernel
theorem dX4_readOrder_85 : decode cX4_readOrder 85 = .ok (.invokevirtual 26, 3) := by decide +kernel
theorem dX4_readOrder_88 : decode cX4_readOrder 88 = .ok (.ifCond .ne 12, 3) := by decide +kernel
theorem dX4_readOrder_91 : decode cX4_readOrder 91 = .ok (.aload_n 0, 1) := by decide +kernel
theorem dX4_readOrder_92 : decode cX4_readOrder 92 = .ok (.bipush 98, 2) := by decide +kernel
theorem dX4_readOrder_94 : decode cX4_readOrder 94 = .ok (.invokevirtual 26, 3) := by decide +kernel
theorem dX4_readOrder_97 : decode cX4_readOrder 97 = .ok (.ifCond .eq 8, 3) := by decide +kernel
theorem dX4_readOrder_100 : decode cX4_readOrder 100 = .ok (.aload_n 0, 1) := by decide +kernel
theorem dX4_readOrder_101 : decode cX4_readOrder 101 = .ok (.invokevirtual 43, 3) := by decide +kernel
theorem dX4_readOrder_104 : decode cX4_readOrder 104 = .ok (.ireturn, 1) := by decide +kernel
theorem dX4_readOrder_105 : decode cX4_readOrder 105 = .ok (.aload_n 0, 1) := by decide +kernel
theorem dX4_readOrder_106 : decode cX4_readOrder 106 = .ok (.bipush 117, 2) := by decide +kernel
theorem dX4_readOrder_108 : decode cX4_readOrder 108 = .ok (.invokevirtual 26, 3) := by decide +kernel
theorem dX4_readOrder_111 : decode cX4_readOrder 111 = .ok (.ifCond .eq 37, 3) := by decide +kernel
theorem dX4_readOrder_114 : decode cX4_readOrder 114 = .ok (.aload_n 0, 1) := by decide +kernel
theorem dX4_readOrder_115 : decode cX4_readOrder 115 = .ok (.invokevirtual 40, 3) := by decide +kernel
theorem dX4_readOrder_118 : decode cX4_readOrder 118 = .ok (.ifCond .eq 30, 3) := by decide +kernel
theorem dX4_readOrder_121 : decode cX4_readOrder 121 = .ok (.aload_n 0, 1) := by decide +kernel
theorem dX4_readOrder_122 : decode cX4_readOrder 122 = .ok (.invokevirtual 43, 3) := by decide +kernel
theorem dX4_readOrder_125 : decode cX4_readOrder 125 = .ok (.ifCond .eq 23, 3) := by decide +kernel
theorem dX4_readOrder_128 : decode cX4_readOrder 128 = .ok (.aload_n 0, 1) := by decide +kernel
theorem dX4_readOrder_129 : decode cX4_readOrder 129 = .ok (.bipush 45, 2) := by decide +kernel
theorem dX4_readOrder_131 : decode cX4_readOrder 131 = .ok (.invokevirtual 26, 3) := by decide +kernel
theorem dX4_readOrder_134 : decode cX4_readOrder 134 = .ok (.ifCond .eq 14, 3) := by decide +kernel
theorem dX4_readOrder_137 : decode cX4_readOrder 137 = .ok (.aload_n 0, 1) := by decide +kernel
theorem dX4_readOrder_138 : decode cX4_readOrder 138 = .ok (.invokevirtual 46, 3) := by decide +kernel
theorem dX4_readOrder_141 : decode cX4_readOrder 141 = .ok (.ifCond .eq 7, 3) := by decide +kernel
theorem dX4_readOrder_144 : decode cX4_readOrder 144 = .ok (.iconst 1, 1) := by decide +kernel
theorem dX4_readOrder_145 : decode cX4_readOrder 145 = .ok (.goto 4, 3) := by decide +kernel
theorem dX4_readOrder_148 : decode cX4_readOrder 148 = .ok (.iconst 0, 1) := by decide +kernel
theorem dX4_readOrder_149 : decode cX4_readOrder 149 = .ok (.ireturn, 1) := by decide +kernel
theorem dX4_next_0 : decode cX4_next 0 = .ok (.aload_n 0, 1) := by decide +kernel
theorem dX4_next_1 : decode cX4_next 1 = .ok (.getfield 19, 3) := by decide +kernel
theorem dX4_next_4 : decode cX4_next 4 = .ok (.ifCond .lt 35, 3) := by decide +kernel
theorem dX4_next_7 : decode cX4_next 7 = .ok (.aload_n 0, 1) := by decide +kernel
theorem dX4_next_8 : decode cX4_next 8 = .ok (.getfield 19, 3) := by decide +kernel
theorem dX4_next_11 : decode cX4_next 11 = .ok (.aload_n 0, 1) := by decide +kernel
theorem dX4_next_12 : decode cX4_next 12 = .ok (.getfield 15, 3) := by decide +kernel
theorem dX4_next_15 : decode cX4_next 15 = .ok (.if_icmp .ge 24, 3) := by decide +kernel
theorem dX4_next_18 : decode cX4_next 18 = .ok (.aload_n 0, 1) := by decide +kernel
theorem dX4_next_19 : decode cX4_next 19 = .ok (.getfield 19, 3) := by decide +kernel
theorem dX4_next_22 : decode cX4_next 22 = .ok (.bipush 80, 2) := by decide +kernel
theorem dX4_next_24 : decode cX4_next 24 = .ok (.if_icmp .ge 15, 3) := by decide +kernel
theorem dX4_next_27 : decode cX4_next 27 = .ok (.aload_n 0, 1) := by decide +kernel
theorem dX4_next_28 : decode cX4_next 28 = .ok (.getfield 9, 3) := by decide +kernel
theorem dX4_next_31 : decode cX4_next 31 = .ok (.aload_n 0, 1) := by decide +kernel
theorem dX4_next_32 : decode cX4_next 32 = .ok (.getfield 19, 3) := by decide +kernel
theorem dX4_next_35 : decode cX4_next 35 = .ok (.caload, 1) := by decide +kernel
theorem dX4_next_36 : decode cX4_next 36 = .ok (.goto 4, 3) := by decide +kernel
theorem dX4_next_39 : decode cX4_next 39 = .ok (.iconst 0, 1) := by decide +kernel
theorem dX4_next_40 : decode cX4_next 40 = .ok (.ireturn, 1) := by decide +kernel
set_option maxRecDepth 20000 in
theorem ggX4_take_X4_next : GoodIn wsX4_take wsX4_next := goodIn_r _ [6, 1, 7, 8, 9, 10, 11, 12, 13, 14, 15] (by decide +kernel) (by decide +kernel)
set_option maxRecDepth 20000 in
theorem gX4_take_X4_next : GoodIn wsX4_take (wsV RX4 30 RX4 yX4_next wsX4_next) := goodIn_app (goodIn_of _ (by decide +kernel)) ggX4_take_X4_next
theorem dX4_take_0 : decode cX4_take 0 = .ok (.aload_n 0, 1) := by decide +kernel
theorem dX4_take_1 : decode cX4_take 1 = .ok (.invokevirtual 30, 3) := by decide +kernel
theorem dX4_take_4 : decode cX4_take 4 = .ok (.iload_n 1, 1) := by decide +kernel
theorem dX4_take_5 : decode cX4_take 5 = .ok (.if_icmp .eq 5, 3) := by decide +kernel
theorem dX4_take_8 : decode cX4_take 8 = .ok (.iconst 0, 1) := by decide +kernel
theorem dX4_take_9 : decode cX4_take 9 = .ok (.ireturn, 1) := by decide +kernel
theorem dX4_take_10 : decode cX4_take 10 = .ok (.aload_n 0, 1) := by decide +kernel
theorem dX4_take_11 : decode cX4_take 11 = .ok (.dup, 1) := by decide +kernel
theorem dX4_take_12 : decode cX4_take 12 = .ok (.getfield 19, 3) := by decide +kernel
theorem dX4_take_15 : decode cX4_take 15 = .ok (.iconst 1, 1) := by decide +kernel
theorem dX4_take_16 : decode cX4_take 16 = .ok (.iadd, 1) := by decide +kernel
theorem dX4_take_17 : decode cX4_take 17 = .ok (.putfield 19, 3) := by decide +kernel
theorem dX4_take_20 : decode cX4_take 20 = .ok (.iconst 1, 1) := by decide +kernel
theorem dX4_take_21 : decode cX4_take 21 = .ok (.ireturn, 1) := by decide +kernel
set_option maxRecDepth 20000 in
theorem ggX4_readMood_X4_next : GoodIn wsX4_readMood wsX4_next := goodIn_r _ [7, 2, 8, 9, 13, 14, 15, 16, 17, 18, 19] (by decide +kernel) (by decide +kernel)
set_option maxRecDepth 20000 in
theorem gX4_readMood_X4_next : GoodIn wsX4_readMood (wsV RX4 30 RX4 yX4_next wsX4_next) := goodIn_app (goodIn_of _ (by decide +kernel)) ggX4_readMood_X4_next
set_option maxRecDepth 20000 in
theorem ggX4_readMood_X6_isMood : GoodIn wsX4_readMood wsX6_isMood := goodIn_r _ [12] (by decide +kernel) (by decide +kernel)
set_option maxRecDepth 20000 in
theorem gX4_readMood_X6_isMood_n52 : GoodIn wsX4_readMood (wsX6_isMood) := ggX4_readMood_X6_isMood
theorem dX4_readMood_0 : decode cX4_readMood 0 = .ok (.aload_n 0, 1) := by decide +kernel
theorem dX4_readMood_1 : decode cX4_readMood 1 = .ok (.aload_n 0, 1) := by decide +kernel
theorem dX4_readMood_2 : decode cX4_readMood 2 = .ok (.invokevirtual 30, 3) := by decide +kernel
theorem dX4_readMood_5 : decode cX4_readMood 5 = .ok (.bipush 48, 2) := by decide +kernel
theorem dX4_readMood_7 : decode cX4_readMood 7 = .ok (.isub, 1) := by decide +kernel
theorem dX4_readMood_8 : decode cX4_readMood 8 = .ok (.putfield 49, 3) := by decide +kernel
theorem dX4_readMood_11 : decode cX4_readMood 11 = .ok (.aload_n 0, 1) := by decide +kernel
theorem dX4_readMood_12 : decode cX4_readMood 12 = .ok (.getfield 49, 3) := by decide +kernel
theorem dX4_readMood_15 : decode cX4_readMood 15 = .ok (.invokestatic 52, 3) := by decide +kernel
theorem dX4_readMood_18 : decode cX4_readMood 18 = .ok (.ifCond .ne 5, 3) := by decide +kernel
theorem dX4_readMood_21 : decode cX4_readMood 21 = .ok (.iconst 0, 1) := by decide +kernel
theorem dX4_readMood_22 : decode cX4_readMood 22 = .ok (.ireturn, 1) := by decide +kernel
theorem dX4_readMood_23 : decode cX4_readMood 23 = .ok (.aload_n 0, 1) := by decide +kernel
theorem dX4_readMood_24 : decode cX4_readMood 24 = .ok (.dup, 1) := by decide +kernel
theorem dX4_readMood_25 : decode cX4_readMood 25 = .ok (.getfield 19, 3) := by decide +kernel
theorem dX4_readMood_28 : decode cX4_readMood 28 = .ok (.iconst 1, 1) := by decide +kernel
theorem dX4_readMood_29 : decode cX4_readMood 29 = .ok (.iadd, 1) := by decide +kernel
theorem dX4_readMood_30 : decode cX4_readMood 30 = .ok (.putfield 19, 3) := by decide +kernel
theorem dX4_readMood_33 : decode cX4_readMood 33 = .ok (.iconst 1, 1) := by decide +kernel
theorem dX4_readMood_34 : decode cX4_readMood 34 = .ok (.ireturn, 1) := by decide +kernel
set_option maxRecDepth 20000 in
theorem ggX4_readFirst_X4_readNumber : GoodIn wsX4_readFirst wsX4_readNumber := goodIn_r _ [6, 7, 8, 9, 10, 5, 11, 12, 13, 14, 15, 16, 17, 18, 19, 20, 21, 22, 23] (by decide +kernel) (by decide +kernel)
set_option maxRecDepth 20000 in
theorem gX4_readFirst_X4_readNumber : GoodIn wsX4_readFirst (wsV RX4 56 RX4 yX4_readNumber wsX4_readNumber) := goodIn_app (goodIn_of _ (by decide +kernel)) ggX4_readFirst_X4_readNumber
theorem dX4_readFirst_0 : decode cX4_readFirst 0 = .ok (.aload_n 0, 1) := by decide +kernel
theorem dX4_readFirst_1 : decode cX4_readFirst 1 = .ok (.aload_n 0, 1) := by decide +kernel
theorem dX4_readFirst_2 : decode cX4_readFirst 2 = .ok (.invokevirtual 56, 3) := by decide +kernel
theorem dX4_readFirst_5 : decode cX4_readFirst 5 = .ok (.putfield 60, 3) := by decide +kernel
theorem dX4_readFirst_8 : decode cX4_readFirst 8 = .ok (.aload_n 0, 1) := by decide +kernel
theorem dX4_readFirst_9 : decode cX4_readFirst 9 = .ok (.getfield 60, 3) := by decide +kernel
theorem dX4_readFirst_12 : decode cX4_readFirst 12 = .ok (.ifCond .lt 7, 3) := by decide +kernel
theorem dX4_readFirst_15 : decode cX4_readFirst 15 = .ok (.iconst 1, 1) := by decide +kernel
theorem dX4_readFirst_16 : decode cX4_readFirst 16 = .ok (.goto 4, 3) := by decide +kernel
theorem dX4_readFirst_19 : decode cX4_readFirst 19 = .ok (.iconst 0, 1) := by decide +kernel
theorem dX4_readFirst_20 : decode cX4_readFirst 20 = .ok (.ireturn, 1) := by decide +kernel
set_option maxRecDepth 20000 in
theorem ggX4_readSecond_X4_readNumber : GoodIn wsX4_readSecond wsX4_readNumber := goodIn_r _ [6, 7, 8, 9, 10, 5, 11, 12, 13, 14, 15, 16, 17, 18, 19, 20, 21, 22, 23] (by decide +kernel) (by decide +kernel)
set_option maxRecDepth 20000 in
theorem gX4_readSecond_X4_readNumber : GoodIn wsX4_readSecond (wsV RX4 56 RX4 yX4_readNumber wsX4_readNumber) := goodIn_app (goodIn_of _ (by decide +kernel)) ggX4_readSecond_X4_readNumber
theorem dX4_readSecond_0 : decode cX4_readSecond 0 = .ok (.aload_n 0, 1) := by decide +kernel
theorem dX4_readSecond_1 : decode cX4_readSecond 1 = .ok (.aload_n 0, 1) := by decide +kernel
theorem dX4_readSecond_2 : decode cX4_readSecond 2 = .ok (.invokevirtual 56, 3) := by decide +kernel
theorem dX4_readSecond_5 : decode cX4_readSecond 5 = .ok (.putfield 37, 3) := by decide +kernel
theorem dX4_readSecond_8 : decode cX4_readSecond 8 = .ok (.aload_n 0, 1) := by decide +kernel
theorem dX4_readSecond_9 : decode cX4_readSecond 9 = .ok (.getfield 37, 3) := by decide +kernel
theorem dX4_readSecond_12 : decode cX4_readSecond 12 = .ok (.ifCond .lt 7, 3) := by decide +kernel
theorem dX4_readSecond_15 : decode cX4_readSecond 15 = .ok (.iconst 1, 1) := by decide +kernel
theorem dX4_readSecond_16 : decode cX4_readSecond 16 = .ok (.goto 4, 3) := by decide +kernel
theorem dX4_readSecond_19 : decode cX4_readSecond 19 = .ok (.iconst 0, 1) := by decide +kernel
theorem dX4_readSecond_20 : decode cX4_readSecond 20 = .ok (.ireturn, 1) := by decide +kernel
set_option maxRecDepth 20000 in
theorem ggX4_readNumber_X4_next : GoodIn wsX4_readNumber wsX4_next := goodIn_r _ [6, 1, 7, 8, 12, 13, 14, 15, 16, 17, 18] (by decide +kernel) (by decide +kernel)
set_option maxRecDepth 20000 in
theorem gX4_readNumber_X4_next : GoodIn wsX4_readNumber (wsV RX4 30 RX4 yX4_next wsX4_next) := goodIn_app (goodIn_of _ (by decide +kernel)) ggX4_readNumber_X4_next
set_option maxRecDepth 20000 in
theorem ggX4_readNumber_X4_isDigit : GoodIn wsX4_readNumber wsX4_isDigit := goodIn_r _ [11] (by decide +kernel) (by decide +kernel)
set_option maxRecDepth 20000 in
theorem gX4_readNumber_X4_isDigit : GoodIn wsX4_readNumber (va_wsS RX4 63 yX4_isDigit wsX4_isDigit) := goodIn_app (goodIn_of _ (by decide +kernel)) ggX4_readNumber_X4_isDigit
theorem dX4_readNumber_0 : decode cX4_readNumber 0 = .ok (.aload_n 0, 1) := by decide +kernel
theorem dX4_readNumber_1 : decode cX4_readNumber 1 = .ok (.invokevirtual 30, 3) := by decide +kernel
theorem dX4_readNumber_4 : decode cX4_readNumber 4 = .ok (.invokestatic 63, 3) := by decide +kernel
theorem dX4_readNumber_7 : decode cX4_readNumber 7 = .ok (.ifCond .ne 6, 3) := by decide +kernel
theorem dX4_readNumber_10 : decode cX4_readNumber 10 = .ok (.bipush (-6), 2) := by decide +kernel
theorem dX4_readNumber_12 : decode cX4_readNumber 12 = .ok (.ireturn, 1) := by decide +kernel
theorem dX4_readNumber_13 : decode cX4_readNumber 13 = .ok (.aload_n 0, 1) := by decide +kernel
theorem dX4_readNumber_14 : decode cX4_readNumber 14 = .ok (.invokevirtual 30, 3) := by decide +kernel
theorem dX4_readNumber_17 : decode cX4_readNumber 17 = .ok (.bipush 48, 2) := by decide +kernel
theorem dX4_readNumber_19 : decode cX4_readNumber 19 = .ok (.isub, 1) := by decide +kernel
theorem dX4_readNumber_20 : decode cX4_readNumber 20 = .ok (.istore_n 1, 1) := by decide +kernel
theorem dX4_readNumber_21 : decode cX4_readNumber 21 = .ok (.aload_n 0, 1) := by decide +kernel
theorem dX4_readNumber_22 : decode cX4_readNumber 22 = .ok (.dup, 1) := by decide +kernel
theorem dX4_readNumber_23 : decode cX4_readNumber 23 = .ok (.getfield 19, 3) := by decide +kernel
theorem dX4_readNumber_26 : decode cX4_readNumber 26 = .ok (.iconst 1, 1) := by decide +kernel
theorem dX4_readNumber_27 : decode cX4_readNumber 27 = .ok (.iadd, 1) := by decide +kernel
theorem dX4_readNumber_28 : decode cX4_readNumber 28 = .ok (.putfield 19, 3) := by decide +kernel
theorem dX4_readNumber_31 : decode cX4_readNumber 31 = .ok (.iload_n 1, 1) := by decide +kernel
theorem dX4_readNumber_32 : decode cX4_readNumber 32 = .ok (.ifCond .le 36, 3) := by decide +kernel
theorem dX4_readNumber_35 : decode cX4_readNumber 35 = .ok (.aload_n 0, 1) := by decide +kernel
theorem dX4_readNumber_36 : decode cX4_readNumber 36 = .ok (.invokevirtual 30, 3) := by decide +kernel
theorem dX4_readNumber_39 : decode cX4_readNumber 39 = .ok (.invokestatic 63, 3) := by decide +kernel
theorem dX4_readNumber_42 : decode cX4_readNumber 42 = .ok (.ifCond .eq 26, 3) := by decide +kernel
theorem dX4_readNumber_45 : decode cX4_readNumber 45 = .ok (.bipush 10, 2) := by decide +kernel
theorem dX4_readNumber_47 : decode cX4_readNumber 47 = .ok (.iload_n 1, 1) := by decide +kernel
theorem dX4_readNumber_48 : decode cX4_readNumber 48 = .ok (.imul, 1) := by decide +kernel
theorem dX4_readNumber_49 : decode cX4_readNumber 49 = .ok (.aload_n 0, 1) := by decide +kernel
theorem dX4_readNumber_50 : decode cX4_readNumber 50 = .ok (.invokevirtual 30, 3) := by decide +kernel
theorem dX4_readNumber_53 : decode cX4_readNumber 53 = .ok (.iadd, 1) := by decide +kernel
theorem dX4_readNumber_54 : decode cX4_readNumber 54 = .ok (.bipush 48, 2) := by decide +kernel
theorem dX4_readNumber_56 : decode cX4_readNumber 56 = .ok (.isub, 1) := by decide +kernel
theorem dX4_readNumber_57 : decode cX4_readNumber 57 = .ok (.istore_n 1, 1) := by decide +kernel
theorem dX4_readNumber_58 : decode cX4_readNumber 58 = .ok (.aload_n 0, 1) := by decide +kernel
theorem dX4_readNumber_59 : decode cX4_readNumber 59 = .ok (.dup, 1) := by decide +kernel
theorem dX4_readNumber_60 : decode cX4_readNumber 60 = .ok (.getfield 19, 3) := by decide +kernel
theorem dX4_readNumber_63 : decode cX4_readNumber 63 = .ok (.iconst 1, 1) := by decide +kernel
theorem dX4_readNumber_64 : decode cX4_readNumber 64 = .ok (.iadd, 1) := by decide +kernel
theorem dX4_readNumber_65 : decode cX4_readNumber 65 = .ok (.putfield 19, 3) := by decide +kernel
theorem dX4_readNumber_68 : decode cX4_readNumber 68 = .ok (.iload_n 1, 1) := by decide +kernel
theorem dX4_readNumber_69 : decode cX4_readNumber 69 = .ok (.ireturn, 1) := by decide +kernel
theorem dX4_isDigit_0 : decode cX4_isDigit 0 = .ok (.iload_n 0, 1) := by decide +kernel
theorem dX4_isDigit_1 : decode cX4_isDigit 1 = .ok (.bipush 48, 2) := by decide +kernel
theorem dX4_isDigit_3 : decode cX4_isDigit 3 = .ok (.if_icmp .lt 13, 3) := by decide +kernel
theorem dX4_isDigit_6 : decode cX4_isDigit 6 = .ok (.iload_n 0, 1) := by decide +kernel
theorem dX4_isDigit_7 : decode cX4_isDigit 7 = .ok (.bipush 57, 2) := by decide +kernel
theorem dX4_isDigit_9 : decode cX4_isDigit 9 = .ok (.if_icmp .gt 7, 3) := by decide +kernel
theorem dX4_isDigit_12 : decode cX4_isDigit 12 = .ok (.iconst 1, 1) := by decide +kernel
theorem dX4_isDigit_13 : decode cX4_isDigit 13 = .ok (.goto 4, 3) := by decide +kernel
theorem dX4_isDigit_16 : decode cX4_isDigit 16 = .ok (.iconst 0, 1) := by decide +kernel
theorem dX4_isDigit_17 : decode cX4_isDigit 17 = .ok (.ireturn, 1) := by decide +kernel
theorem dX5_init_0 : decode cX5_init 0 = .ok (.aload_n 0, 1) := by decide +kernel
theorem dX5_init_1 : decode cX5_init 1 = .ok (.invokespecial 3, 3) := by decide +kernel
theorem dX5_init_4 : decode cX5_init 4 = .ok (.aload_n 0, 1) := by decide +kernel
theorem dX5_init_5 : decode cX5_init 5 = .ok (.bipush 30, 2) := by decide +kernel
theorem dX5_init_7 : decode cX5_init 7 = .ok (.newarray .int, 2) := by decide +kernel
theorem dX5_init_9 : decode cX5_init 9 = .ok (.putfield 9, 3) := by decide +kernel
theorem dX5_init_12 : decode cX5_init 12 = .ok (.return_, 1) := by decide +kernel
set_option maxRecDepth 20000 in
theorem ggX5_ofSent_X5_workOut : GoodIn wsX5_ofSent wsX5_workOut := goodIn_r _ [6, 7, 1, 8, 9, 10, 11, 12, 13, 14, 15, 16, 17, 18, 19, 20, 21, 22, 23, 24, 25, 26, 27, 28, 29, 30, 31, 32, 33, 34, 35, 36, 37, 39, 40, 41, 42, 38, 43, 44, 45, 46, 47, 48, 49, 50] (by decide +kernel) (by decide +kernel)
set_option maxRecDepth 20000 in
theorem gX5_ofSent_X5_workOut : GoodIn wsX5_ofSent (wsV RX5 15 RX5 yX5_workOut wsX5_workOut) := goodIn_app (goodIn_of _ (by decide +kernel)) ggX5_ofSent_X5_workOut
theorem dX5_ofSent_0 : decode cX5_ofSent 0 = .ok (.aload_n 0, 1) := by decide +kernel
theorem dX5_ofSent_1 : decode cX5_ofSent 1 = .ok (.aload_n 1, 1) := by decide +kernel
theorem dX5_ofSent_2 : decode cX5_ofSent 2 = .ok (.bipush (-6), 2) := by decide +kernel
theorem dX5_ofSent_4 : decode cX5_ofSent 4 = .ok (.invokevirtual 15, 3) := by decide +kernel
theorem dX5_ofSent_7 : decode cX5_ofSent 7 = .ok (.aload_n 0, 1) := by decide +kernel
theorem dX5_ofSent_8 : decode cX5_ofSent 8 = .ok (.getfield 9, 3) := by decide +kernel
theorem dX5_ofSent_11 : decode cX5_ofSent 11 = .ok (.iload_n 2, 1) := by decide +kernel
theorem dX5_ofSent_12 : decode cX5_ofSent 12 = .ok (.iaload, 1) := by decide +kernel
theorem dX5_ofSent_13 : decode cX5_ofSent 13 = .ok (.ireturn, 1) := by decide +kernel
set_option maxRecDepth 20000 in
theorem ggX5_withSent_X5_workOut : GoodIn wsX5_withSent wsX5_workOut := goodIn_r _ [6, 7, 1, 8, 9, 10, 11, 12, 13, 14, 15, 16, 17, 18, 19, 20, 21, 22, 23, 24, 25, 26, 27, 28, 29, 30, 31, 32, 33, 34, 35, 36, 37, 39, 40, 41, 42, 38, 43, 44, 45, 46, 47, 48, 49, 50] (by decide +kernel) (by decide +kernel)
set_option maxRecDepth 20000 in
theorem gX5_withSent_X5_workOut : GoodIn wsX5_withSent (wsV RX5 15 RX5 yX5_workOut wsX5_workOut) := goodIn_app (goodIn_of _ (by decide +kernel)) ggX5_withSent_X5_workOut
theorem dX5_withSent_0 : decode cX5_withSent 0 = .ok (.aload_n 0, 1) := by decide +kernel
theorem dX5_withSent_1 : decode cX5_withSent 1 = .ok (.aload_n 1, 1) := by decide +kernel
theorem dX5_withSent_2 : decode cX5_withSent 2 = .ok (.iload_n 3, 1) := by decide +kernel
theorem dX5_withSent_3 : decode cX5_withSent 3 = .ok (.invokevirtual 15, 3) := by decide +kernel
theorem dX5_withSent_6 : decode cX5_withSent 6 = .ok (.aload_n 0, 1) := by decide +kernel
theorem dX5_withSent_7 : decode cX5_withSent 7 = .ok (.getfield 9, 3) := by decide +kernel
theorem dX5_withSent_10 : decode cX5_withSent 10 = .ok (.iload_n 2, 1) := by decide +kernel
theorem dX5_withSent_11 : decode cX5_withSent 11 = .ok (.iaload, 1) := by decide +kernel
theorem dX5_withSent_12 : decode cX5_withSent 12 = .ok (.ireturn, 1) := by decide +kernel
set_option maxRecDepth 20000 in
theorem ggX5_greatest_X5_workOut : GoodIn wsX5_greatest wsX5_workOut := goodIn_r _ [9, 1, 4, 2, 3, 10, 11, 12, 13, 14, 15, 16, 17, 18, 19, 20, 21, 22, 23, 24, 25, 26, 27, 28, 29, 30, 31, 32, 33, 34, 35, 36, 37, 38, 39, 40, 41, 50, 42, 43, 44, 45, 46, 47, 48, 49] (by decide +kernel) (by decide +kernel)
set_option maxRecDepth 20000 in
theorem gX5_greatest_X5_workOut : GoodIn wsX5_greatest (wsV RX5 15 RX5 yX5_workOut wsX5_workOut) := goodIn_app (goodIn_of _ (by decide +kernel)) ggX5_greatest_X5_workOut
theorem dX5_greatest_0 : decode cX5_greatest 0 = .ok (.aload_n 0, 1) := by decide +kernel
theorem dX5_greatest_1 : decode cX5_greatest 1 = .ok (.aload_n 1, 1) := by decide +kernel
theorem dX5_greatest_2 : decode cX5_greatest 2 = .ok (.bipush (-6), 2) := by decide +kernel
theorem dX5_greatest_4 : decode cX5_greatest 4 = .ok (.invokevirtual 15, 3) := by decide +kernel
theorem dX5_greatest_7 : decode cX5_greatest 7 = .ok (.bipush (-6), 2) := by decide +kernel
theorem dX5_greatest_9 : decode cX5_greatest 9 = .ok (.istore_n 2, 1) := by decide +kernel
theorem dX5_greatest_10 : decode cX5_greatest 10 = .ok (.iconst (-1), 1) := by decide +kernel
theorem dX5_greatest_11 : decode cX5_greatest 11 = .ok (.istore_n 3, 1) := by decide +kernel
theorem dX5_greatest_12 : decode cX5_greatest 12 = .ok (.iconst 0, 1) := by decide +kernel
theorem dX5_greatest_13 : decode cX5_greatest 13 = .ok (.istore 4, 2) := by decide +kernel
theorem dX5_greatest_15 : decode cX5_greatest 15 = .ok (.iload 4, 2) := by decide +kernel
theorem dX5_greatest_17 : decode cX5_greatest 17 = .ok (.aload_n 1, 1) := by decide +kernel
theorem dX5_greatest_18 : decode cX5_greatest 18 = .ok (.getfield 19, 3) := by decide +kernel
theorem dX5_greatest_21 : decode cX5_greatest 21 = .ok (.getfield 25, 3) := by decide +kernel
theorem dX5_greatest_24 : decode cX5_greatest 24 = .ok (.if_icmp .ge 45, 3) := by decide +kernel
theorem dX5_greatest_27 : decode cX5_greatest 27 = .ok (.aload_n 1, 1) := by decide +kernel
theorem dX5_greatest_28 : decode cX5_greatest 28 = .ok (.getfield 19, 3) := by decide +kernel
theorem dX5_greatest_31 : decode cX5_greatest 31 = .ok (.getfield 31, 3) := by decide +kernel
theorem dX5_greatest_34 : decode cX5_greatest 34 = .ok (.iload 4, 2) := by decide +kernel
theorem dX5_greatest_36 : decode cX5_greatest 36 = .ok (.iaload, 1) := by decide +kernel
theorem dX5_greatest_37 : decode cX5_greatest 37 = .ok (.iconst 1, 1) := by decide +kernel
theorem dX5_greatest_38 : decode cX5_greatest 38 = .ok (.if_icmp .ne 25, 3) := by decide +kernel
theorem dX5_greatest_41 : decode cX5_greatest 41 = .ok (.aload_n 0, 1) := by decide +kernel
theorem dX5_greatest_42 : decode cX5_greatest 42 = .ok (.getfield 9, 3) := by decide +kernel
theorem dX5_greatest_45 : decode cX5_greatest 45 = .ok (.iload 4, 2) := by decide +kernel
theorem dX5_greatest_47 : decode cX5_greatest 47 = .ok (.iaload, 1) := by decide +kernel
theorem dX5_greatest_48 : decode cX5_greatest 48 = .ok (.iload_n 3, 1) := by decide +kernel
theorem dX5_greatest_49 : decode cX5_greatest 49 = .ok (.if_icmp .le 14, 3) := by decide +kernel
theorem dX5_greatest_52 : decode cX5_greatest 52 = .ok (.iload 4, 2) := by decide +kernel
theorem dX5_greatest_54 : decode cX5_greatest 54 = .ok (.istore_n 2, 1) := by decide +kernel
theorem dX5_greatest_55 : decode cX5_greatest 55 = .ok (.aload_n 0, 1) := by decide +kernel
theorem dX5_greatest_56 : decode cX5_greatest 56 = .ok (.getfield 9, 3) := by decide +kernel
theorem dX5_greatest_59 : decode cX5_greatest 59 = .ok (.iload 4, 2) := by decide +kernel
theorem dX5_greatest_61 : decode cX5_greatest 61 = .ok (.iaload, 1) := by decide +kernel
theorem dX5_greatest_62 : decode cX5_greatest 62 = .ok (.istore_n 3, 1) := by decide +kernel
theorem dX5_greatest_63 : decode cX5_greatest 63 = .ok (.iinc 4 1, 3) := by decide +kernel
theorem dX5_greatest_66 : decode cX5_greatest 66 = .ok (.goto (-51), 3) := by decide +kernel
theorem dX5_greatest_69 : decode cX5_greatest 69 = .ok (.iload_n 2, 1) := by decide +kernel
theorem dX5_greatest_70 : decode cX5_greatest 70 = .ok (.ireturn, 1) := by decide +kernel
set_option maxRecDepth 20000 in
theorem ggX5_workOut_X0_heatNow : GoodIn wsX5_workOut wsX0_heatNow := goodIn_r _ [14, 15, 16, 17, 18, 19, 20, 21, 7, 8, 9, 22, 23, 24, 13, 25, 26, 33, 34, 35, 36, 38, 39, 40, 41, 42, 43, 44, 45] (by decide +kernel) (by decide +kernel)
set_option maxRecDepth 20000 in
theorem gX5_workOut_X0_heatNow : GoodIn wsX5_workOut (wsV RX5 34 RX0 yX0_heatNow wsX0_heatNow) := goodIn_app (goodIn_of _ (by decide +kernel)) ggX5_workOut_X0_heatNow
set_option maxRecDepth 20000 in
theorem ggX5_workOut_X3_isLetter : GoodIn wsX5_workOut wsX3_isLetter := goodIn_r _ [31, 32, 38, 39, 40, 41, 42, 43, 44, 45] (by decide +kernel) (by decide +kernel)
set_option maxRecDepth 20000 in
theorem gX5_workOut_X3_isLetter : GoodIn wsX5_workOut (wsV RX5 41 RX3 yX3_isLetter wsX3_isLetter) := goodIn_app (goodIn_of _ (by decide +kernel)) ggX5_workOut_X3_isLetter
theorem dX5_workOut_0 : decode cX5_workOut 0 = .ok (.aload_n 1, 1) := by decide +kernel
theorem dX5_workOut_1 : decode cX5_workOut 1 = .ok (.getfield 19, 3) := by decide +kernel
theorem dX5_workOut_4 : decode cX5_workOut 4 = .ok (.astore_n 3, 1) := by decide +kernel
theorem dX5_workOut_5 : decode cX5_workOut 5 = .ok (.iconst 0, 1) := by decide +kernel
theorem dX5_workOut_6 : decode cX5_workOut 6 = .ok (.istore 4, 2) := by decide +kernel
theorem dX5_workOut_8 : decode cX5_workOut 8 = .ok (.iload 4, 2) := by decide +kernel
theorem dX5_workOut_10 : decode cX5_workOut 10 = .ok (.bipush 30, 2) := by decide +kernel
theorem dX5_workOut_12 : decode cX5_workOut 12 = .ok (.if_icmp .ge 17, 3) := by decide +kernel
theorem dX5_workOut_15 : decode cX5_workOut 15 = .ok (.aload_n 0, 1) := by decide +kernel
theorem dX5_workOut_16 : decode cX5_workOut 16 = .ok (.getfield 9, 3) := by decide +kernel
theorem dX5_workOut_19 : decode cX5_workOut 19 = .ok (.iload 4, 2) := by decide +kernel
theorem dX5_workOut_21 : decode cX5_workOut 21 = .ok (.iconst 0, 1) := by decide +kernel
theorem dX5_workOut_22 : decode cX5_workOut 22 = .ok (.iastore, 1) := by decide +kernel
theorem dX5_workOut_23 : decode cX5_workOut 23 = .ok (.iinc 4 1, 3) := by decide +kernel
theorem dX5_workOut_26 : decode cX5_workOut 26 = .ok (.goto (-18), 3) := by decide +kernel
theorem dX5_workOut_29 : decode cX5_workOut 29 = .ok (.aload_n 3, 1) := by decide +kernel
theorem dX5_workOut_30 : decode cX5_workOut 30 = .ok (.getfield 25, 3) := by decide +kernel
theorem dX5_workOut_33 : decode cX5_workOut 33 = .ok (.iconst 1, 1) := by decide +kernel
theorem dX5_workOut_34 : decode cX5_workOut 34 = .ok (.isub, 1) := by decide +kernel
theorem dX5_workOut_35 : decode cX5_workOut 35 = .ok (.istore 4, 2) := by decide +kernel
theorem dX5_workOut_37 : decode cX5_workOut 37 = .ok (.iload 4, 2) := by decide +kernel
theorem dX5_workOut_39 : decode cX5_workOut 39 = .ok (.ifCond .lt 91, 3) := by decide +kernel
theorem dX5_workOut_42 : decode cX5_workOut 42 = .ok (.aload_n 3, 1) := by decide +kernel
theorem dX5_workOut_43 : decode cX5_workOut 43 = .ok (.getfield 31, 3) := by decide +kernel
theorem dX5_workOut_46 : decode cX5_workOut 46 = .ok (.iload 4, 2) := by decide +kernel
theorem dX5_workOut_48 : decode cX5_workOut 48 = .ok (.iaload, 1) := by decide +kernel
theorem dX5_workOut_49 : decode cX5_workOut 49 = .ok (.iconst 1, 1) := by decide +kernel
theorem dX5_workOut_50 : decode cX5_workOut 50 = .ok (.if_icmp .eq 9, 3) := by decide +kernel
theorem dX5_workOut_53 : decode cX5_workOut 53 = .ok (.iload 4, 2) := by decide +kernel
theorem dX5_workOut_55 : decode cX5_workOut 55 = .ok (.iload_n 2, 1) := by decide +kernel
theorem dX5_workOut_56 : decode cX5_workOut 56 = .ok (.if_icmp .ne 68, 3) := by decide +kernel
theorem dX5_workOut_59 : decode cX5_workOut 59 = .ok (.aload_n 0, 1) := by decide +kernel
theorem dX5_workOut_60 : decode cX5_workOut 60 = .ok (.getfield 9, 3) := by decide +kernel
theorem dX5_workOut_63 : decode cX5_workOut 63 = .ok (.iload 4, 2) := by decide +kernel
theorem dX5_workOut_65 : decode cX5_workOut 65 = .ok (.aload_n 1, 1) := by decide +kernel
theorem dX5_workOut_66 : decode cX5_workOut 66 = .ok (.iload 4, 2) := by decide +kernel
theorem dX5_workOut_68 : decode cX5_workOut 68 = .ok (.invokevirtual 34, 3) := by decide +kernel
theorem dX5_workOut_71 : decode cX5_workOut 71 = .ok (.aload_n 0, 1) := by decide +kernel
theorem dX5_workOut_72 : decode cX5_workOut 72 = .ok (.getfield 9, 3) := by decide +kernel
theorem dX5_workOut_75 : decode cX5_workOut 75 = .ok (.iload 4, 2) := by decide +kernel
theorem dX5_workOut_77 : decode cX5_workOut 77 = .ok (.iaload, 1) := by decide +kernel
theorem dX5_workOut_78 : decode cX5_workOut 78 = .ok (.iconst 2, 1) := by decide +kernel
theorem dX5_workOut_79 : decode cX5_workOut 79 = .ok (.idiv, 1) := by decide +kernel
theorem dX5_workOut_80 : decode cX5_workOut 80 = .ok (.iadd, 1) := by decide +kernel
theorem dX5_workOut_81 : decode cX5_workOut 81 = .ok (.iastore, 1) := by decide +kernel
theorem dX5_workOut_82 : decode cX5_workOut 82 = .ok (.aload_n 3, 1) := by decide +kernel
theorem dX5_workOut_83 : decode cX5_workOut 83 = .ok (.getfield 38, 3) := by decide +kernel
theorem dX5_workOut_86 : decode cX5_workOut 86 = .ok (.iload 4, 2) := by decide +kernel
theorem dX5_workOut_88 : decode cX5_workOut 88 = .ok (.iaload, 1) := by decide +kernel
theorem dX5_workOut_89 : decode cX5_workOut 89 = .ok (.istore 5, 2) := by decide +kernel
theorem dX5_workOut_91 : decode cX5_workOut 91 = .ok (.aload_n 3, 1) := by decide +kernel
theorem dX5_workOut_92 : decode cX5_workOut 92 = .ok (.iload 5, 2) := by decide +kernel
theorem dX5_workOut_94 : decode cX5_workOut 94 = .ok (.invokevirtual 41, 3) := by decide +kernel
theorem dX5_workOut_97 : decode cX5_workOut 97 = .ok (.ifCond .eq 27, 3) := by decide +kernel
theorem dX5_workOut_100 : decode cX5_workOut 100 = .ok (.aload_n 0, 1) := by decide +kernel
theorem dX5_workOut_101 : decode cX5_workOut 101 = .ok (.getfield 9, 3) := by decide +kernel
theorem dX5_workOut_104 : decode cX5_workOut 104 = .ok (.iload 5, 2) := by decide +kernel
theorem dX5_workOut_106 : decode cX5_workOut 106 = .ok (.aload_n 0, 1) := by decide +kernel
theorem dX5_workOut_107 : decode cX5_workOut 107 = .ok (.getfield 9, 3) := by decide +kernel
theorem dX5_workOut_110 : decode cX5_workOut 110 = .ok (.iload 5, 2) := by decide +kernel
theorem dX5_workOut_112 : decode cX5_workOut 112 = .ok (.iaload, 1) := by decide +kernel
theorem dX5_workOut_113 : decode cX5_workOut 113 = .ok (.aload_n 0, 1) := by decide +kernel
theorem dX5_workOut_114 : decode cX5_workOut 114 = .ok (.getfield 9, 3) := by decide +kernel
theorem dX5_workOut_117 : decode cX5_workOut 117 = .ok (.iload 4, 2) := by decide +kernel
theorem dX5_workOut_119 : decode cX5_workOut 119 = .ok (.iaload, 1) := by decide +kernel
theorem dX5_workOut_120 : decode cX5_workOut 120 = .ok (.invokestatic 45, 3) := by decide +kernel
theorem dX5_workOut_123 : decode cX5_workOut 123 = .ok (.iastore, 1) := by decide +kernel
theorem dX5_workOut_124 : decode cX5_workOut 124 = .ok (.iinc 4 (-1), 3) := by decide +kernel
theorem dX5_workOut_127 : decode cX5_workOut 127 = .ok (.goto (-90), 3) := by decide +kernel
theorem dX5_workOut_130 : decode cX5_workOut 130 = .ok (.return_, 1) := by decide +kernel
set_option maxRecDepth 20000 in
theorem ggX6_init_X0_init : GoodIn wsX6_init wsX0_init := goodIn_r _ [22, 23, 2, 3, 24, 25, 26, 27, 28, 29, 30, 31, 32, 33, 34, 35, 36, 37, 38, 39, 40, 41, 42, 43, 44, 45, 46, 47, 48, 49, 50, 65, 66, 67, 68, 84, 85, 86, 87, 88, 89, 90, 91, 92, 93, 94, 95] (by decide +kernel) (by decide +kernel)
set_option maxRecDepth 20000 in
theorem gX6_init_X0_init_n9 : GoodIn wsX6_init (wsX0_init) := ggX6_init_X0_init
set_option maxRecDepth 20000 in
theorem ggX6_init_X5_init : GoodIn wsX6_init wsX5_init := goodIn_r _ [52, 53, 2, 3, 24, 54, 74] (by decide +kernel) (by decide +kernel)
set_option maxRecDepth 20000 in
theorem gX6_init_X5_init_n18 : GoodIn wsX6_init (wsX5_init) := ggX6_init_X5_init
set_option maxRecDepth 20000 in
theorem ggX6_init_X4_init : GoodIn wsX6_init wsX4_init := goodIn_r _ [56, 57, 2, 3, 58, 59, 75, 76, 77, 78, 79, 80, 81] (by decide +kernel) (by decide +kernel)
set_option maxRecDepth 20000 in
theorem gX6_init_X4_init_n25 : GoodIn wsX6_init (wsX4_init) := ggX6_init_X4_init
set_option maxRecDepth 20000 in
theorem ggX6_init_X2_init : GoodIn wsX6_init wsX2_init := goodIn_r _ [61, 62, 2, 3, 63, 64, 82, 83] (by decide +kernel) (by decide +kernel)
set_option maxRecDepth 20000 in
theorem gX6_init_X2_init_n32 : GoodIn wsX6_init (wsX2_init) := ggX6_init_X2_init
theorem dX6_init_0 : decode cX6_init 0 = .ok (.aload_n 0, 1) := by decide +kernel
theorem dX6_init_1 : decode cX6_init 1 = .ok (.invokespecial 1, 3) := by decide +kernel
theorem dX6_init_4 : decode cX6_init 4 = .ok (.aload_n 0, 1) := by decide +kernel
theorem dX6_init_5 : decode cX6_init 5 = .ok (.new 7, 3) := by decide +kernel
theorem dX6_init_8 : decode cX6_init 8 = .ok (.dup, 1) := by decide +kernel
theorem dX6_init_9 : decode cX6_init 9 = .ok (.invokespecial 9, 3) := by decide +kernel
theorem dX6_init_12 : decode cX6_init 12 = .ok (.putfield 10, 3) := by decide +kernel
theorem dX6_init_15 : decode cX6_init 15 = .ok (.aload_n 0, 1) := by decide +kernel
theorem dX6_init_16 : decode cX6_init 16 = .ok (.new 16, 3) := by decide +kernel
theorem dX6_init_19 : decode cX6_init 19 = .ok (.dup, 1) := by decide +kernel
theorem dX6_init_20 : decode cX6_init 20 = .ok (.invokespecial 18, 3) := by decide +kernel
theorem dX6_init_23 : decode cX6_init 23 = .ok (.putfield 19, 3) := by decide +kernel
theorem dX6_init_26 : decode cX6_init 26 = .ok (.aload_n 0, 1) := by decide +kernel
theorem dX6_init_27 : decode cX6_init 27 = .ok (.new 23, 3) := by decide +kernel
theorem dX6_init_30 : decode cX6_init 30 = .ok (.dup, 1) := by decide +kernel
theorem dX6_init_31 : decode cX6_init 31 = .ok (.invokespecial 25, 3) := by decide +kernel
theorem dX6_init_34 : decode cX6_init 34 = .ok (.putfield 26, 3) := by decide +kernel
theorem dX6_init_37 : decode cX6_init 37 = .ok (.aload_n 0, 1) := by decide +kernel
theorem dX6_init_38 : decode cX6_init 38 = .ok (.new 30, 3) := by decide +kernel
theorem dX6_init_41 : decode cX6_init 41 = .ok (.dup, 1) := by decide +kernel
theorem dX6_init_42 : decode cX6_init 42 = .ok (.invokespecial 32, 3) := by decide +kernel
theorem dX6_init_45 : decode cX6_init 45 = .ok (.putfield 33, 3) := by decide +kernel
theorem dX6_init_48 : decode cX6_init 48 = .ok (.aload_n 0, 1) := by decide +kernel
theorem dX6_init_49 : decode cX6_init 49 = .ok (.iconst 2, 1) := by decide +kernel
theorem dX6_init_50 : decode cX6_init 50 = .ok (.anewarray 7, 3) := by decide +kernel
theorem dX6_init_53 : decode cX6_init 53 = .ok (.putfield 37, 3) := by decide +kernel
theorem dX6_init_56 : decode cX6_init 56 = .ok (.return_, 1) := by decide +kernel
set_option maxRecDepth 20000 in
theorem ggX6_set_X2_prepare : GoodIn wsX6_set wsX2_prepare := goodIn_r _ [7, 8, 9, 10, 11, 12, 13, 14, 15, 16, 17, 18, 19, 20, 21, 22, 23, 24, 25, 26, 27, 28, 29, 30, 31, 32, 33, 34, 35, 36, 37, 38, 39, 40, 41, 42, 43, 44, 45, 46, 47, 48, 49, 50, 51, 52, 53, 54, 55, 56, 57, 58, 59, 60, 61, 62, 63, 64, 65, 66, 67, 68, 69, 87, 88, 89, 90, 91, 92, 93, 94, 95, 96, 97, 98, 99, 100, 101, 102, 103, 104] (by decide +kernel) (by decide +kernel)
set_option maxRecDepth 20000 in
theorem gX6_set_X2_prepare : GoodIn wsX6_set (wsV RX6 41 RX2 yX2_prepare wsX2_prepare) := goodIn_app (goodIn_of _ (by decide +kernel)) ggX6_set_X2_prepare
set_option maxRecDepth 20000 in
theorem ggX6_set_X0_changeSetting : GoodIn wsX6_set wsX0_changeSetting := goodIn_r _ [73, 19, 89, 90, 91, 92] (by decide +kernel) (by decide +kernel)
set_option maxRecDepth 20000 in
theorem gX6_set_X0_changeSetting : GoodIn wsX6_set (wsV RX6 45 RX0 yX0_changeSetting wsX0_changeSetting) := goodIn_app (goodIn_of _ (by decide +kernel)) ggX6_set_X0_changeSetting
set_option maxRecDepth 20000 in
theorem ggX6_set_X6_recorded : GoodIn wsX6_set wsX6_recorded := goodIn_r _ [77, 1, 78, 79, 80, 6, 81, 9, 8, 82, 83, 84, 85, 86, 87, 88] (by decide +kernel) (by decide +kernel)
set_option maxRecDepth 20000 in
theorem gX6_set_X6_recorded : GoodIn wsX6_set (wsV RX6 49 RX6 yX6_recorded wsX6_recorded) := goodIn_app (goodIn_of _ (by decide +kernel)) ggX6_set_X6_recorded
theorem dX6_set_0 : decode cX6_set 0 = .ok (.aload_n 0, 1) := by decide +kernel
theorem dX6_set_1 : decode cX6_set 1 = .ok (.getfield 33, 3) := by decide +kernel
theorem dX6_set_4 : decode cX6_set 4 = .ok (.aload_n 0, 1) := by decide +kernel
theorem dX6_set_5 : decode cX6_set 5 = .ok (.getfield 10, 3) := by decide +kernel
theorem dX6_set_8 : decode cX6_set 8 = .ok (.invokevirtual 41, 3) := by decide +kernel
theorem dX6_set_11 : decode cX6_set 11 = .ok (.aload_n 0, 1) := by decide +kernel
theorem dX6_set_12 : decode cX6_set 12 = .ok (.aload_n 0, 1) := by decide +kernel
theorem dX6_set_13 : decode cX6_set 13 = .ok (.getfield 10, 3) := by decide +kernel
theorem dX6_set_16 : decode cX6_set 16 = .ok (.iload_n 1, 1) := by decide +kernel
theorem dX6_set_17 : decode cX6_set 17 = .ok (.iload_n 2, 1) := by decide +kernel
theorem dX6_set_18 : decode cX6_set 18 = .ok (.invokevirtual 45, 3) := by decide +kernel
theorem dX6_set_21 : decode cX6_set 21 = .ok (.invokevirtual 49, 3) := by decide +kernel
theorem dX6_set_24 : decode cX6_set 24 = .ok (.ireturn, 1) := by decide +kernel
set_option maxRecDepth 20000 in
theorem ggX6_write_X2_prepare : GoodIn wsX6_write wsX2_prepare := goodIn_r _ [7, 8, 9, 10, 11, 12, 13, 14, 15, 16, 17, 18, 19, 20, 21, 22, 23, 24, 25, 26, 27, 28, 29, 30, 31, 32, 33, 34, 35, 36, 37, 38, 39, 40, 41, 42, 43, 44, 45, 46, 47, 48, 49, 50, 51, 52, 53, 54, 55, 56, 57, 58, 59, 60, 61, 62, 63, 64, 65, 66, 67, 68, 69, 108, 109, 110, 111, 112, 113, 114, 115, 116, 117, 118, 119, 120, 121, 122, 123, 124, 125] (by decide +kernel) (by decide +kernel)
set_option maxRecDepth 20000 in
theorem gX6_write_X2_prepare : GoodIn wsX6_write (wsV RX6 41 RX2 yX2_prepare wsX2_prepare) := goodIn_app (goodIn_of _ (by decide +kernel)) ggX6_write_X2_prepare
set_option maxRecDepth 20000 in
theorem ggX6_write_X0_writeLetter : GoodIn wsX6_write wsX0_writeLetter := goodIn_r _ [73, 27, 74, 75, 76, 77, 78, 79, 80, 81, 51, 82, 83, 84, 85, 26, 86, 69, 87, 88, 89, 90, 38, 42, 91, 92, 93, 12, 94, 49, 110, 111, 112, 113, 118, 119, 120, 121, 122, 123, 124, 125] (by decide +kernel) (by decide +kernel)
set_option maxRecDepth 20000 in
theorem gX6_write_X0_writeLetter : GoodIn wsX6_write (wsV RX6 53 RX0 yX0_writeLetter wsX0_writeLetter) := goodIn_app (goodIn_of _ (by decide +kernel)) ggX6_write_X0_writeLetter
set_option maxRecDepth 20000 in
theorem ggX6_write_X6_recorded : GoodIn wsX6_write wsX6_recorded := goodIn_r _ [98, 1, 99, 100, 101, 6, 102, 9, 8, 103, 104, 105, 106, 107, 108, 109] (by decide +kernel) (by decide +kernel)
set_option maxRecDepth 20000 in
theorem gX6_write_X6_recorded : GoodIn wsX6_write (wsV RX6 49 RX6 yX6_recorded wsX6_recorded) := goodIn_app (goodIn_of _ (by decide +kernel)) ggX6_write_X6_recorded
theorem dX6_write_0 : decode cX6_write 0 = .ok (.aload_n 0, 1) := by decide +kernel
theorem dX6_write_1 : decode cX6_write 1 = .ok (.getfield 33, 3) := by decide +kernel
theorem dX6_write_4 : decode cX6_write 4 = .ok (.aload_n 0, 1) := by decide +kernel
theorem dX6_write_5 : decode cX6_write 5 = .ok (.getfield 10, 3) := by decide +kernel
theorem dX6_write_8 : decode cX6_write 8 = .ok (.invokevirtual 41, 3) := by decide +kernel
theorem dX6_write_11 : decode cX6_write 11 = .ok (.aload_n 0, 1) := by decide +kernel
theorem dX6_write_12 : decode cX6_write 12 = .ok (.aload_n 0, 1) := by decide +kernel
theorem dX6_write_13 : decode cX6_write 13 = .ok (.getfield 10, 3) := by decide +kernel
theorem dX6_write_16 : decode cX6_write 16 = .ok (.iload_n 1, 1) := by decide +kernel
theorem dX6_write_17 : decode cX6_write 17 = .ok (.iload_n 2, 1) := by decide +kernel
theorem dX6_write_18 : decode cX6_write 18 = .ok (.iload_n 3, 1) := by decide +kernel
theorem dX6_write_19 : decode cX6_write 19 = .ok (.invokevirtual 53, 3) := by decide +kernel
theorem dX6_write_22 : decode cX6_write 22 = .ok (.invokevirtual 49, 3) := by decide +kernel
theorem dX6_write_25 : decode cX6_write 25 = .ok (.ireturn, 1) := by decide +kernel
set_option maxRecDepth 20000 in
theorem ggX6_turn_X2_prepare : GoodIn wsX6_turn wsX2_prepare := goodIn_r _ [7, 8, 9, 10, 11, 12, 13, 14, 15, 16, 17, 18, 19, 20, 21, 22, 23, 24, 25, 26, 27, 28, 29, 30, 31, 32, 33, 34, 35, 36, 37, 38, 39, 40, 41, 42, 43, 44, 45, 46, 47, 48, 49, 50, 51, 52, 53, 54, 55, 56, 57, 58, 59, 60, 61, 62, 63, 64, 65, 66, 67, 68, 69, 90, 91, 92, 93, 94, 95, 96, 97, 98, 99, 100, 101, 102, 103, 104, 105, 106, 107] (by decide +kernel) (by decide +kernel)
set_option maxRecDepth 20000 in
theorem gX6_turn_X2_prepare : GoodIn wsX6_turn (wsV RX6 41 RX2 yX2_prepare wsX2_prepare) := goodIn_app (goodIn_of _ (by decide +kernel)) ggX6_turn_X2_prepare
set_option maxRecDepth 20000 in
theorem ggX6_turn_X0_turnKey : GoodIn wsX6_turn wsX0_turnKey := goodIn_r _ [73, 23, 74, 75, 51, 76, 92, 93, 94, 95, 96, 97, 98, 99] (by decide +kernel) (by decide +kernel)
set_option maxRecDepth 20000 in
theorem gX6_turn_X0_turnKey : GoodIn wsX6_turn (wsV RX6 57 RX0 yX0_turnKey wsX0_turnKey) := goodIn_app (goodIn_of _ (by decide +kernel)) ggX6_turn_X0_turnKey
set_option maxRecDepth 20000 in
theorem ggX6_turn_X6_recorded : GoodIn wsX6_turn wsX6_recorded := goodIn_r _ [80, 1, 81, 82, 83, 6, 84, 9, 8, 85, 86, 87, 88, 89, 90, 91] (by decide +kernel) (by decide +kernel)
set_option maxRecDepth 20000 in
theorem gX6_turn_X6_recorded : GoodIn wsX6_turn (wsV RX6 49 RX6 yX6_recorded wsX6_recorded) := goodIn_app (goodIn_of _ (by decide +kernel)) ggX6_turn_X6_recorded
theorem dX6_turn_0 : decode cX6_turn 0 = .ok (.aload_n 0, 1) := by decide +kernel
theorem dX6_turn_1 : decode cX6_turn 1 = .ok (.getfield 33, 3) := by decide +kernel
theorem dX6_turn_4 : decode cX6_turn 4 = .ok (.aload_n 0, 1) := by decide +kernel
theorem dX6_turn_5 : decode cX6_turn 5 = .ok (.getfield 10, 3) := by decide +kernel
theorem dX6_turn_8 : decode cX6_turn 8 = .ok (.invokevirtual 41, 3) := by decide +kernel
theorem dX6_turn_11 : decode cX6_turn 11 = .ok (.aload_n 0, 1) := by decide +kernel
theorem dX6_turn_12 : decode cX6_turn 12 = .ok (.aload_n 0, 1) := by decide +kernel
theorem dX6_turn_13 : decode cX6_turn 13 = .ok (.getfield 10, 3) := by decide +kernel
theorem dX6_turn_16 : decode cX6_turn 16 = .ok (.iload_n 1, 1) := by decide +kernel
theorem dX6_turn_17 : decode cX6_turn 17 = .ok (.invokevirtual 57, 3) := by decide +kernel
theorem dX6_turn_20 : decode cX6_turn 20 = .ok (.invokevirtual 49, 3) := by decide +kernel
theorem dX6_turn_23 : decode cX6_turn 23 = .ok (.ireturn, 1) := by decide +kernel
set_option maxRecDepth 20000 in
theorem ggX6_rest_X2_prepare : GoodIn wsX6_rest wsX2_prepare := goodIn_r _ [7, 8, 9, 10, 11, 12, 13, 14, 15, 16, 17, 18, 19, 20, 21, 22, 23, 24, 25, 26, 27, 28, 29, 30, 31, 32, 33, 34, 35, 36, 37, 38, 39, 40, 41, 42, 43, 44, 45, 46, 47, 48, 49, 50, 51, 52, 53, 54, 55, 56, 57, 58, 59, 60, 61, 62, 63, 64, 65, 66, 67, 68, 69, 90, 91, 92, 93, 94, 95, 96, 97, 98, 99, 100, 101, 102, 103, 104, 105, 106, 107] (by decide +kernel) (by decide +kernel)
set_option maxRecDepth 20000 in
theorem gX6_rest_X2_prepare : GoodIn wsX6_rest (wsV RX6 41 RX2 yX2_prepare wsX2_prepare) := goodIn_app (goodIn_of _ (by decide +kernel)) ggX6_rest_X2_prepare
set_option maxRecDepth 20000 in
theorem ggX6_rest_X0_changeRest : GoodIn wsX6_rest wsX0_changeRest := goodIn_r _ [73, 23, 74, 75, 51, 76, 92, 93, 94, 95, 96, 97, 98, 99] (by decide +kernel) (by decide +kernel)
set_option maxRecDepth 20000 in
theorem gX6_rest_X0_changeRest : GoodIn wsX6_rest (wsV RX6 60 RX0 yX0_changeRest wsX0_changeRest) := goodIn_app (goodIn_of _ (by decide +kernel)) ggX6_rest_X0_changeRest
set_option maxRecDepth 20000 in
theorem ggX6_rest_X6_recorded : GoodIn wsX6_rest wsX6_recorded := goodIn_r _ [80, 1, 81, 82, 83, 6, 84, 9, 8, 85, 86, 87, 88, 89, 90, 91] (by decide +kernel) (by decide +kernel)
set_option maxRecDepth 20000 in
theorem gX6_rest_X6_recorded : GoodIn wsX6_rest (wsV RX6 49 RX6 yX6_recorded wsX6_recorded) := goodIn_app (goodIn_of _ (by decide +kernel)) ggX6_rest_X6_recorded
theorem dX6_rest_0 : decode cX6_rest 0 = .ok (.aload_n 0, 1) := by decide +kernel
theorem dX6_rest_1 : decode cX6_rest 1 = .ok (.getfield 33, 3) := by decide +kernel
theorem dX6_rest_4 : decode cX6_rest 4 = .ok (.aload_n 0, 1) := by decide +kernel
theorem dX6_rest_5 : decode cX6_rest 5 = .ok (.getfield 10, 3) := by decide +kernel
theorem dX6_rest_8 : decode cX6_rest 8 = .ok (.invokevirtual 41, 3) := by decide +kernel
theorem dX6_rest_11 : decode cX6_rest 11 = .ok (.aload_n 0, 1) := by decide +kernel
theorem dX6_rest_12 : decode cX6_rest 12 = .ok (.aload_n 0, 1) := by decide +kernel
theorem dX6_rest_13 : decode cX6_rest 13 = .ok (.getfield 10, 3) := by decide +kernel
theorem dX6_rest_16 : decode cX6_rest 16 = .ok (.iload_n 1, 1) := by decide +kernel
theorem dX6_rest_17 : decode cX6_rest 17 = .ok (.iload_n 2, 1) := by decide +kernel
theorem dX6_rest_18 : decode cX6_rest 18 = .ok (.invokevirtual 60, 3) := by decide +kernel
theorem dX6_rest_21 : decode cX6_rest 21 = .ok (.invokevirtual 49, 3) := by decide +kernel
theorem dX6_rest_24 : decode cX6_rest 24 = .ok (.ireturn, 1) := by decide +kernel
set_option maxRecDepth 20000 in
theorem ggX6_hours_X2_prepare : GoodIn wsX6_hours wsX2_prepare := goodIn_r _ [7, 8, 9, 10, 11, 12, 13, 14, 15, 16, 17, 18, 19, 20, 21, 22, 23, 24, 25, 26, 27, 28, 29, 30, 31, 32, 33, 34, 35, 36, 37, 38, 39, 40, 41, 42, 43, 44, 45, 46, 47, 48, 49, 50, 51, 52, 53, 54, 55, 56, 57, 58, 59, 60, 61, 62, 63, 64, 65, 66, 67, 68, 69, 93, 94, 95, 96, 97, 98, 99, 100, 101, 102, 103, 104, 105, 106, 107, 108, 109, 110] (by decide +kernel) (by decide +kernel)
set_option maxRecDepth 20000 in
theorem gX6_hours_X2_prepare : GoodIn wsX6_hours (wsV RX6 41 RX2 yX2_prepare wsX2_prepare) := goodIn_app (goodIn_of _ (by decide +kernel)) ggX6_hours_X2_prepare
set_option maxRecDepth 20000 in
theorem ggX6_hours_X0_changeHours : GoodIn wsX6_hours wsX0_changeHours := goodIn_r _ [73, 23, 74, 75, 76, 51, 77, 78, 79, 95, 96, 97, 98, 99, 100, 101, 102] (by decide +kernel) (by decide +kernel)
set_option maxRecDepth 20000 in
theorem gX6_hours_X0_changeHours : GoodIn wsX6_hours (wsV RX6 63 RX0 yX0_changeHours wsX0_changeHours) := goodIn_app (goodIn_of _ (by decide +kernel)) ggX6_hours_X0_changeHours
set_option maxRecDepth 20000 in
theorem ggX6_hours_X6_recorded : GoodIn wsX6_hours wsX6_recorded := goodIn_r _ [83, 1, 84, 85, 86, 6, 87, 9, 8, 88, 89, 90, 91, 92, 93, 94] (by decide +kernel) (by decide +kernel)
set_option maxRecDepth 20000 in
theorem gX6_hours_X6_recorded : GoodIn wsX6_hours (wsV RX6 49 RX6 yX6_recorded wsX6_recorded) := goodIn_app (goodIn_of _ (by decide +kernel)) ggX6_hours_X6_recorded
theorem dX6_hours_0 : decode cX6_hours 0 = .ok (.aload_n 0, 1) := by decide +kernel
theorem dX6_hours_1 : decode cX6_hours 1 = .ok (.getfield 33, 3) := by decide +kernel
theorem dX6_hours_4 : decode cX6_hours 4 = .ok (.aload_n 0, 1) := by decide +kernel
theorem dX6_hours_5 : decode cX6_hours 5 = .ok (.getfield 10, 3) := by decide +kernel
theorem dX6_hours_8 : decode cX6_hours 8 = .ok (.invokevirtual 41, 3) := by decide +kernel
theorem dX6_hours_11 : decode cX6_hours 11 = .ok (.aload_n 0, 1) := by decide +kernel
theorem dX6_hours_12 : decode cX6_hours 12 = .ok (.aload_n 0, 1) := by decide +kernel
theorem dX6_hours_13 : decode cX6_hours 13 = .ok (.getfield 10, 3) := by decide +kernel
theorem dX6_hours_16 : decode cX6_hours 16 = .ok (.iload_n 1, 1) := by decide +kernel
theorem dX6_hours_17 : decode cX6_hours 17 = .ok (.iload_n 2, 1) := by decide +kernel
theorem dX6_hours_18 : decode cX6_hours 18 = .ok (.iload_n 3, 1) := by decide +kernel
theorem dX6_hours_19 : decode cX6_hours 19 = .ok (.invokevirtual 63, 3) := by decide +kernel
theorem dX6_hours_22 : decode cX6_hours 22 = .ok (.invokevirtual 49, 3) := by decide +kernel
theorem dX6_hours_25 : decode cX6_hours 25 = .ok (.ireturn, 1) := by decide +kernel
set_option maxRecDepth 20000 in
theorem ggX6_burn_X2_prepare : GoodIn wsX6_burn wsX2_prepare := goodIn_r _ [7, 8, 9, 10, 11, 12, 13, 14, 15, 16, 17, 18, 19, 20, 21, 22, 23, 24, 25, 26, 27, 28, 29, 30, 31, 32, 33, 34, 35, 36, 37, 38, 39, 40, 41, 42, 43, 44, 45, 46, 47, 48, 49, 50, 51, 52, 53, 54, 55, 56, 57, 58, 59, 60, 61, 62, 63, 64, 65, 66, 67, 68, 69, 114, 115, 116, 117, 118, 119, 120, 121, 122, 123, 124, 125, 126, 127, 128, 129, 130, 131] (by decide +kernel) (by decide +kernel)
set_option maxRecDepth 20000 in
theorem gX6_burn_X2_prepare : GoodIn wsX6_burn (wsV RX6 41 RX2 yX2_prepare wsX2_prepare) := goodIn_app (goodIn_of _ (by decide +kernel)) ggX6_burn_X2_prepare
set_option maxRecDepth 20000 in
theorem ggX6_burn_X0_burnLetter : GoodIn wsX6_burn wsX0_burnLetter := goodIn_r _ [73, 27, 74, 75, 76, 77, 78, 26, 79, 69, 80, 81, 82, 12, 83, 23, 84, 85, 51, 86, 87, 88, 89, 90, 91, 92, 93, 19, 94, 95, 55, 96, 97, 98, 99, 100, 49, 116, 117, 118, 119, 124, 125, 126, 127, 128, 129, 130, 131, 120, 121, 122, 123] (by decide +kernel) (by decide +kernel)
set_option maxRecDepth 20000 in
theorem gX6_burn_X0_burnLetter : GoodIn wsX6_burn (wsV RX6 66 RX0 yX0_burnLetter wsX0_burnLetter) := goodIn_app (goodIn_of _ (by decide +kernel)) ggX6_burn_X0_burnLetter
set_option maxRecDepth 20000 in
theorem ggX6_burn_X6_recorded : GoodIn wsX6_burn wsX6_recorded := goodIn_r _ [104, 1, 105, 106, 107, 6, 108, 9, 8, 109, 110, 111, 112, 113, 114, 115] (by decide +kernel) (by decide +kernel)
set_option maxRecDepth 20000 in
theorem gX6_burn_X6_recorded : GoodIn wsX6_burn (wsV RX6 49 RX6 yX6_recorded wsX6_recorded) := goodIn_app (goodIn_of _ (by decide +kernel)) ggX6_burn_X6_recorded
theorem dX6_burn_0 : decode cX6_burn 0 = .ok (.aload_n 0, 1) := by decide +kernel
theorem dX6_burn_1 : decode cX6_burn 1 = .ok (.getfield 33, 3) := by decide +kernel
theorem dX6_burn_4 : decode cX6_burn 4 = .ok (.aload_n 0, 1) := by decide +kernel
theorem dX6_burn_5 : decode cX6_burn 5 = .ok (.getfield 10, 3) := by decide +kernel
theorem dX6_burn_8 : decode cX6_burn 8 = .ok (.invokevirtual 41, 3) := by decide +kernel
theorem dX6_burn_11 : decode cX6_burn 11 = .ok (.aload_n 0, 1) := by decide +kernel
theorem dX6_burn_12 : decode cX6_burn 12 = .ok (.aload_n 0, 1) := by decide +kernel
theorem dX6_burn_13 : decode cX6_burn 13 = .ok (.getfield 10, 3) := by decide +kernel
theorem dX6_burn_16 : decode cX6_burn 16 = .ok (.iload_n 1, 1) := by decide +kernel
theorem dX6_burn_17 : decode cX6_burn 17 = .ok (.invokevirtual 66, 3) := by decide +kernel
theorem dX6_burn_20 : decode cX6_burn 20 = .ok (.invokevirtual 49, 3) := by decide +kernel
theorem dX6_burn_23 : decode cX6_burn 23 = .ok (.ireturn, 1) := by decide +kernel
set_option maxRecDepth 20000 in
theorem ggX6_pass_X2_prepare : GoodIn wsX6_pass wsX2_prepare := goodIn_r _ [7, 8, 9, 10, 11, 12, 13, 14, 15, 16, 17, 18, 19, 20, 21, 22, 23, 24, 25, 26, 27, 28, 29, 30, 31, 32, 33, 34, 35, 36, 37, 38, 39, 40, 41, 42, 43, 44, 45, 46, 47, 48, 49, 50, 51, 52, 53, 54, 55, 56, 57, 58, 59, 60, 61, 62, 63, 64, 65, 66, 67, 68, 69, 138, 139, 140, 141, 142, 143, 144, 145, 146, 147, 148, 149, 150, 151, 152, 153, 154, 155] (by decide +kernel) (by decide +kernel)
set_option maxRecDepth 20000 in
theorem gX6_pass_X2_prepare : GoodIn wsX6_pass (wsV RX6 41 RX2 yX2_prepare wsX2_prepare) := goodIn_app (goodIn_of _ (by decide +kernel)) ggX6_pass_X2_prepare
set_option maxRecDepth 20000 in
theorem ggX6_pass_X0_passHours : GoodIn wsX6_pass wsX0_passHours := goodIn_r _ [73, 49, 23, 19, 74, 75, 76, 12, 77, 78, 79, 80, 22, 81, 33, 32, 34, 82, 83, 84, 85, 27, 86, 87, 88, 89, 90, 26, 91, 38, 42, 92, 93, 94, 95, 96, 97, 98, 99, 100, 101, 102, 103, 104, 105, 55, 106, 107, 108, 109, 110, 111, 112, 113, 114, 115, 116, 117, 118, 119, 120, 121, 122, 123, 124, 140, 141, 142, 143, 144, 145, 146, 147, 148, 149, 150, 151, 152, 153, 154, 155] (by decide +kernel) (by decide +kernel)
set_option maxRecDepth 20000 in
theorem gX6_pass_X0_passHours : GoodIn wsX6_pass (wsV RX6 69 RX0 yX0_passHours wsX0_passHours) := goodIn_app (goodIn_of _ (by decide +kernel)) ggX6_pass_X0_passHours
set_option maxRecDepth 20000 in
theorem ggX6_pass_X6_recorded : GoodIn wsX6_pass wsX6_recorded := goodIn_r _ [128, 1, 129, 130, 131, 6, 132, 9, 8, 133, 134, 135, 136, 137, 138, 139] (by decide +kernel) (by decide +kernel)
set_option maxRecDepth 20000 in
theorem gX6_pass_X6_recorded : GoodIn wsX6_pass (wsV RX6 49 RX6 yX6_recorded wsX6_recorded) := goodIn_app (goodIn_of _ (by decide +kernel)) ggX6_pass_X6_recorded
theorem dX6_pass_0 : decode cX6_pass 0 = .ok (.aload_n 0, 1) := by decide +kernel
theorem dX6_pass_1 : decode cX6_pass 1 = .ok (.getfield 33, 3) := by decide +kernel
theorem dX6_pass_4 : decode cX6_pass 4 = .ok (.aload_n 0, 1) := by decide +kernel
theorem dX6_pass_5 : decode cX6_pass 5 = .ok (.getfield 10, 3) := by decide +kernel
theorem dX6_pass_8 : decode cX6_pass 8 = .ok (.invokevirtual 41, 3) := by decide +kernel
theorem dX6_pass_11 : decode cX6_pass 11 = .ok (.aload_n 0, 1) := by decide +kernel
theorem dX6_pass_12 : decode cX6_pass 12 = .ok (.aload_n 0, 1) := by decide +kernel
theorem dX6_pass_13 : decode cX6_pass 13 = .ok (.getfield 10, 3) := by decide +kernel
theorem dX6_pass_16 : decode cX6_pass 16 = .ok (.iload_n 1, 1) := by decide +kernel
theorem dX6_pass_17 : decode cX6_pass 17 = .ok (.invokevirtual 69, 3) := by decide +kernel
theorem dX6_pass_20 : decode cX6_pass 20 = .ok (.invokevirtual 49, 3) := by decide +kernel
theorem dX6_pass_23 : decode cX6_pass 23 = .ok (.ireturn, 1) := by decide +kernel
set_option maxRecDepth 20000 in
theorem ggX6_recorded_X2_keepPrepared : GoodIn wsX6_recorded wsX2_keepPrepared := goodIn_r _ [6, 7, 8, 14, 15] (by decide +kernel) (by decide +kernel)
set_option maxRecDepth 20000 in
theorem gX6_recorded_X2_keepPrepared : GoodIn wsX6_recorded (wsV RX6 72 RX2 yX2_keepPrepared wsX2_keepPrepared) := goodIn_app (goodIn_of _ (by decide +kernel)) ggX6_recorded_X2_keepPrepared
theorem dX6_recorded_0 : decode cX6_recorded 0 = .ok (.iload_n 1, 1) := by decide +kernel
theorem dX6_recorded_1 : decode cX6_recorded 1 = .ok (.ifCond .lt 10, 3) := by decide +kernel
theorem dX6_recorded_4 : decode cX6_recorded 4 = .ok (.aload_n 0, 1) := by decide +kernel
theorem dX6_recorded_5 : decode cX6_recorded 5 = .ok (.getfield 33, 3) := by decide +kernel
theorem dX6_recorded_8 : decode cX6_recorded 8 = .ok (.invokevirtual 72, 3) := by decide +kernel
theorem dX6_recorded_11 : decode cX6_recorded 11 = .ok (.iload_n 1, 1) := by decide +kernel
theorem dX6_recorded_12 : decode cX6_recorded 12 = .ok (.ireturn, 1) := by decide +kernel
set_option maxRecDepth 20000 in
theorem ggX6_ofLetter_X3_isLetter : GoodIn wsX6_ofLetter wsX3_isLetter := goodIn_r _ [14, 15, 72, 73, 74, 75, 76, 77, 78, 79] (by decide +kernel) (by decide +kernel)
set_option maxRecDepth 20000 in
theorem gX6_ofLetter_X3_isLetter : GoodIn wsX6_ofLetter (wsV RX6 79 RX3 yX3_isLetter wsX3_isLetter) := goodIn_app (goodIn_of _ (by decide +kernel)) ggX6_ofLetter_X3_isLetter
set_option maxRecDepth 20000 in
theorem ggX6_ofLetter_X0_heatNow : GoodIn wsX6_ofLetter wsX0_heatNow := goodIn_r _ [20, 21, 22, 23, 24, 25, 26, 27, 28, 29, 30, 31, 32, 33, 19, 34, 35, 68, 69, 70, 71, 72, 73, 74, 75, 76, 77, 78, 79] (by decide +kernel) (by decide +kernel)
set_option maxRecDepth 20000 in
theorem gX6_ofLetter_X0_heatNow : GoodIn wsX6_ofLetter (wsV RX6 92 RX0 yX0_heatNow wsX0_heatNow) := goodIn_app (goodIn_of _ (by decide +kernel)) ggX6_ofLetter_X0_heatNow
set_option maxRecDepth 20000 in
theorem ggX6_ofLetter_X5_ofSent : GoodIn wsX6_ofLetter wsX5_ofSent := goodIn_r _ [40, 41, 42, 43, 44, 39, 45, 46, 47, 48, 49, 50, 28, 29, 30, 51, 17, 18, 19, 20, 21, 22, 23, 24, 25, 26, 27, 31, 32, 33, 34, 35, 52, 11, 12, 13, 14, 15, 80, 68, 69, 70, 71, 72, 73, 74, 75, 76, 77, 78, 79] (by decide +kernel) (by decide +kernel)
set_option maxRecDepth 20000 in
theorem gX6_ofLetter_X5_ofSent : GoodIn wsX6_ofLetter (wsV RX6 107 RX5 yX5_ofSent wsX5_ofSent) := goodIn_app (goodIn_of _ (by decide +kernel)) ggX6_ofLetter_X5_ofSent
set_option maxRecDepth 20000 in
theorem ggX6_ofLetter_X3_answersTo : GoodIn wsX6_ofLetter wsX3_answersTo := goodIn_r _ [56, 15, 57, 72, 73, 74, 75, 76, 77, 78, 79] (by decide +kernel) (by decide +kernel)
set_option maxRecDepth 20000 in
theorem gX6_ofLetter_X3_answersTo : GoodIn wsX6_ofLetter (wsV RX6 111 RX3 yX3_answersTo wsX3_answersTo) := goodIn_app (goodIn_of _ (by decide +kernel)) ggX6_ofLetter_X3_answersTo
set_option maxRecDepth 20000 in
theorem ggX6_ofLetter_X3_depthOf : GoodIn wsX6_ofLetter wsX3_depthOf := goodIn_r _ [61, 57, 62, 11, 12, 13, 14, 15, 72, 73, 74, 75, 76, 77, 78, 79] (by decide +kernel) (by decide +kernel)
set_option maxRecDepth 20000 in
theorem gX6_ofLetter_X3_depthOf : GoodIn wsX6_ofLetter (wsV RX6 114 RX3 yX3_depthOf wsX3_depthOf) := goodIn_app (goodIn_of _ (by decide +kernel)) ggX6_ofLetter_X3_depthOf
theorem dX6_ofLetter_0 : decode cX6_ofLetter 0 = .ok (.aload_n 0, 1) := by decide +kernel
theorem dX6_ofLetter_1 : decode cX6_ofLetter 1 = .ok (.getfield 10, 3) := by decide +kernel
theorem dX6_ofLetter_4 : decode cX6_ofLetter 4 = .ok (.getfield 75, 3) := by decide +kernel
theorem dX6_ofLetter_7 : decode cX6_ofLetter 7 = .ok (.astore_n 3, 1) := by decide +kernel
theorem dX6_ofLetter_8 : decode cX6_ofLetter 8 = .ok (.aload_n 3, 1) := by decide +kernel
theorem dX6_ofLetter_9 : decode cX6_ofLetter 9 = .ok (.iload_n 1, 1) := by decide +kernel
theorem dX6_ofLetter_10 : decode cX6_ofLetter 10 = .ok (.invokevirtual 79, 3) := by decide +kernel
theorem dX6_ofLetter_13 : decode cX6_ofLetter 13 = .ok (.ifCond .ne 5, 3) := by decide +kernel
theorem dX6_ofLetter_16 : decode cX6_ofLetter 16 = .ok (.iconst (-1), 1) := by decide +kernel
theorem dX6_ofLetter_17 : decode cX6_ofLetter 17 = .ok (.ireturn, 1) := by decide +kernel
theorem dX6_ofLetter_18 : decode cX6_ofLetter 18 = .ok (.iload_n 2, 1) := by decide +kernel
theorem dX6_ofLetter_19 : decode cX6_ofLetter 19 = .ok (.tableswitch 129 0 9 #[53, 60, 67, 76, 83, 90, 97, 104, 117, 123], 53) := by decide +kernel
theorem dX6_ofLetter_72 : decode cX6_ofLetter 72 = .ok (.aload_n 3, 1) := by decide +kernel
theorem dX6_ofLetter_73 : decode cX6_ofLetter 73 = .ok (.getfield 85, 3) := by decide +kernel
theorem dX6_ofLetter_76 : decode cX6_ofLetter 76 = .ok (.iload_n 1, 1) := by decide +kernel
theorem dX6_ofLetter_77 : decode cX6_ofLetter 77 = .ok (.iaload, 1) := by decide +kernel
theorem dX6_ofLetter_78 : decode cX6_ofLetter 78 = .ok (.ireturn, 1) := by decide +kernel
theorem dX6_ofLetter_79 : decode cX6_ofLetter 79 = .ok (.aload_n 3, 1) := by decide +kernel
theorem dX6_ofLetter_80 : decode cX6_ofLetter 80 = .ok (.getfield 89, 3) := by decide +kernel
theorem dX6_ofLetter_83 : decode cX6_ofLetter 83 = .ok (.iload_n 1, 1) := by decide +kernel
theorem dX6_ofLetter_84 : decode cX6_ofLetter 84 = .ok (.iaload, 1) := by decide +kernel
theorem dX6_ofLetter_85 : decode cX6_ofLetter 85 = .ok (.ireturn, 1) := by decide +kernel
theorem dX6_ofLetter_86 : decode cX6_ofLetter 86 = .ok (.aload_n 0, 1) := by decide +kernel
theorem dX6_ofLetter_87 : decode cX6_ofLetter 87 = .ok (.getfield 10, 3) := by decide +kernel
theorem dX6_ofLetter_90 : decode cX6_ofLetter 90 = .ok (.iload_n 1, 1) := by decide +kernel
theorem dX6_ofLetter_91 : decode cX6_ofLetter 91 = .ok (.invokevirtual 92, 3) := by decide +kernel
theorem dX6_ofLetter_94 : decode cX6_ofLetter 94 = .ok (.ireturn, 1) := by decide +kernel
theorem dX6_ofLetter_95 : decode cX6_ofLetter 95 = .ok (.aload_n 3, 1) := by decide +kernel
theorem dX6_ofLetter_96 : decode cX6_ofLetter 96 = .ok (.getfield 95, 3) := by decide +kernel
theorem dX6_ofLetter_99 : decode cX6_ofLetter 99 = .ok (.iload_n 1, 1) := by decide +kernel
theorem dX6_ofLetter_100 : decode cX6_ofLetter 100 = .ok (.iaload, 1) := by decide +kernel
theorem dX6_ofLetter_101 : decode cX6_ofLetter 101 = .ok (.ireturn, 1) := by decide +kernel
theorem dX6_ofLetter_102 : decode cX6_ofLetter 102 = .ok (.aload_n 3, 1) := by decide +kernel
theorem dX6_ofLetter_103 : decode cX6_ofLetter 103 = .ok (.getfield 98, 3) := by decide +kernel
theorem dX6_ofLetter_106 : decode cX6_ofLetter 106 = .ok (.iload_n 1, 1) := by decide +kernel
theorem dX6_ofLetter_107 : decode cX6_ofLetter 107 = .ok (.iaload, 1) := by decide +kernel
theorem dX6_ofLetter_108 : decode cX6_ofLetter 108 = .ok (.ireturn, 1) := by decide +kernel
theorem dX6_ofLetter_109 : decode cX6_ofLetter 109 = .ok (.aload_n 3, 1) := by decide +kernel
theorem dX6_ofLetter_110 : decode cX6_ofLetter 110 = .ok (.getfield 101, 3) := by decide +kernel
theorem dX6_ofLetter_113 : decode cX6_ofLetter 113 = .ok (.iload_n 1, 1) := by decide +kernel
theorem dX6_ofLetter_114 : decode cX6_ofLetter 114 = .ok (.iaload, 1) := by decide +kernel
theorem dX6_ofLetter_115 : decode cX6_ofLetter 115 = .ok (.ireturn, 1) := by decide +kernel
theorem dX6_ofLetter_116 : decode cX6_ofLetter 116 = .ok (.aload_n 3, 1) := by decide +kernel
theorem dX6_ofLetter_117 : decode cX6_ofLetter 117 = .ok (.getfield 104, 3) := by decide +kernel
theorem dX6_ofLetter_120 : decode cX6_ofLetter 120 = .ok (.iload_n 1, 1) := by decide +kernel
theorem dX6_ofLetter_121 : decode cX6_ofLetter 121 = .ok (.iaload, 1) := by decide +kernel
theorem dX6_ofLetter_122 : decode cX6_ofLetter 122 = .ok (.ireturn, 1) := by decide +kernel
theorem dX6_ofLetter_123 : decode cX6_ofLetter 123 = .ok (.aload_n 0, 1) := by decide +kernel
theorem dX6_ofLetter_124 : decode cX6_ofLetter 124 = .ok (.getfield 19, 3) := by decide +kernel
theorem dX6_ofLetter_127 : decode cX6_ofLetter 127 = .ok (.aload_n 0, 1) := by decide +kernel
theorem dX6_ofLetter_128 : decode cX6_ofLetter 128 = .ok (.getfield 10, 3) := by decide +kernel
theorem dX6_ofLetter_131 : decode cX6_ofLetter 131 = .ok (.iload_n 1, 1) := by decide +kernel
theorem dX6_ofLetter_132 : decode cX6_ofLetter 132 = .ok (.invokevirtual 107, 3) := by decide +kernel
theorem dX6_ofLetter_135 : decode cX6_ofLetter 135 = .ok (.ireturn, 1) := by decide +kernel
theorem dX6_ofLetter_136 : decode cX6_ofLetter 136 = .ok (.aload_n 3, 1) := by decide +kernel
theorem dX6_ofLetter_137 : decode cX6_ofLetter 137 = .ok (.iload_n 1, 1) := by decide +kernel
theorem dX6_ofLetter_138 : decode cX6_ofLetter 138 = .ok (.invokevirtual 111, 3) := by decide +kernel
theorem dX6_ofLetter_141 : decode cX6_ofLetter 141 = .ok (.ireturn, 1) := by decide +kernel
theorem dX6_ofLetter_142 : decode cX6_ofLetter 142 = .ok (.aload_n 3, 1) := by decide +kernel
theorem dX6_ofLetter_143 : decode cX6_ofLetter 143 = .ok (.iload_n 1, 1) := by decide +kernel
theorem dX6_ofLetter_144 : decode cX6_ofLetter 144 = .ok (.invokevirtual 114, 3) := by decide +kernel
theorem dX6_ofLetter_147 : decode cX6_ofLetter 147 = .ok (.ireturn, 1) := by decide +kernel
theorem dX6_ofLetter_148 : decode cX6_ofLetter 148 = .ok (.bipush (-2), 2) := by decide +kernel
theorem dX6_ofLetter_150 : decode cX6_ofLetter 150 = .ok (.ireturn, 1) := by decide +kernel
set_option maxRecDepth 20000 in
theorem ggX6_ofDrawer_X6_isMood : GoodIn wsX6_ofDrawer wsX6_isMood := goodIn_r _ [11] (by decide +kernel) (by decide +kernel)
set_option maxRecDepth 20000 in
theorem gX6_ofDrawer_X6_isMood : GoodIn wsX6_ofDrawer (va_wsS RX6 117 yX6_isMood wsX6_isMood) := goodIn_app (goodIn_of _ (by decide +kernel)) ggX6_ofDrawer_X6_isMood
set_option maxRecDepth 20000 in
theorem ggX6_ofDrawer_X3_ofMood : GoodIn wsX6_ofDrawer wsX3_ofMood := goodIn_r _ [16, 17, 18, 19, 62, 63, 64, 65, 66, 67, 68, 69] (by decide +kernel) (by decide +kernel)
set_option maxRecDepth 20000 in
theorem gX6_ofDrawer_X3_ofMood : GoodIn wsX6_ofDrawer (wsV RX6 124 RX3 yX3_ofMood wsX3_ofMood) := goodIn_app (goodIn_of _ (by decide +kernel)) ggX6_ofDrawer_X3_ofMood
set_option maxRecDepth 20000 in
theorem ggX6_ofDrawer_X0_heatInDrawer : GoodIn wsX6_ofDrawer wsX0_heatInDrawer := goodIn_r _ [24, 25, 26, 27, 28, 29, 15, 30, 18, 19, 31, 32, 33, 23, 34, 35, 36, 37, 38, 39, 40, 41, 42, 43, 44, 45, 46, 47, 48, 54, 55, 56, 57, 62, 63, 64, 65, 66, 67, 68, 69] (by decide +kernel) (by decide +kernel)
set_option maxRecDepth 20000 in
theorem gX6_ofDrawer_X0_heatInDrawer : GoodIn wsX6_ofDrawer (wsV RX6 141 RX0 yX0_heatInDrawer wsX0_heatInDrawer) := goodIn_app (goodIn_of _ (by decide +kernel)) ggX6_ofDrawer_X0_heatInDrawer
theorem dX6_ofDrawer_0 : decode cX6_ofDrawer 0 = .ok (.iload_n 1, 1) := by decide +kernel
theorem dX6_ofDrawer_1 : decode cX6_ofDrawer 1 = .ok (.invokestatic 117, 3) := by decide +kernel
theorem dX6_ofDrawer_4 : decode cX6_ofDrawer 4 = .ok (.ifCond .ne 5, 3) := by decide +kernel
theorem dX6_ofDrawer_7 : decode cX6_ofDrawer 7 = .ok (.iconst (-1), 1) := by decide +kernel
theorem dX6_ofDrawer_8 : decode cX6_ofDrawer 8 = .ok (.ireturn, 1) := by decide +kernel
theorem dX6_ofDrawer_9 : decode cX6_ofDrawer 9 = .ok (.aload_n 0, 1) := by decide +kernel
theorem dX6_ofDrawer_10 : decode cX6_ofDrawer 10 = .ok (.getfield 10, 3) := by decide +kernel
theorem dX6_ofDrawer_13 : decode cX6_ofDrawer 13 = .ok (.getfield 120, 3) := by decide +kernel
theorem dX6_ofDrawer_16 : decode cX6_ofDrawer 16 = .ok (.astore_n 3, 1) := by decide +kernel
theorem dX6_ofDrawer_17 : decode cX6_ofDrawer 17 = .ok (.iload_n 2, 1) := by decide +kernel
theorem dX6_ofDrawer_18 : decode cX6_ofDrawer 18 = .ok (.tableswitch 122 0 7 #[46, 59, 66, 73, 80, 87, 96, 109], 46) := by decide +kernel
theorem dX6_ofDrawer_64 : decode cX6_ofDrawer 64 = .ok (.aload_n 0, 1) := by decide +kernel
theorem dX6_ofDrawer_65 : decode cX6_ofDrawer 65 = .ok (.getfield 10, 3) := by decide +kernel
theorem dX6_ofDrawer_68 : decode cX6_ofDrawer 68 = .ok (.getfield 75, 3) := by decide +kernel
theorem dX6_ofDrawer_71 : decode cX6_ofDrawer 71 = .ok (.iload_n 1, 1) := by decide +kernel
theorem dX6_ofDrawer_72 : decode cX6_ofDrawer 72 = .ok (.iconst 0, 1) := by decide +kernel
theorem dX6_ofDrawer_73 : decode cX6_ofDrawer 73 = .ok (.invokevirtual 124, 3) := by decide +kernel
theorem dX6_ofDrawer_76 : decode cX6_ofDrawer 76 = .ok (.ireturn, 1) := by decide +kernel
theorem dX6_ofDrawer_77 : decode cX6_ofDrawer 77 = .ok (.aload_n 3, 1) := by decide +kernel
theorem dX6_ofDrawer_78 : decode cX6_ofDrawer 78 = .ok (.getfield 127, 3) := by decide +kernel
theorem dX6_ofDrawer_81 : decode cX6_ofDrawer 81 = .ok (.iload_n 1, 1) := by decide +kernel
theorem dX6_ofDrawer_82 : decode cX6_ofDrawer 82 = .ok (.iaload, 1) := by decide +kernel
theorem dX6_ofDrawer_83 : decode cX6_ofDrawer 83 = .ok (.ireturn, 1) := by decide +kernel
theorem dX6_ofDrawer_84 : decode cX6_ofDrawer 84 = .ok (.aload_n 3, 1) := by decide +kernel
theorem dX6_ofDrawer_85 : decode cX6_ofDrawer 85 = .ok (.getfield 132, 3) := by decide +kernel
theorem dX6_ofDrawer_88 : decode cX6_ofDrawer 88 = .ok (.iload_n 1, 1) := by decide +kernel
theorem dX6_ofDrawer_89 : decode cX6_ofDrawer 89 = .ok (.iaload, 1) := by decide +kernel
theorem dX6_ofDrawer_90 : decode cX6_ofDrawer 90 = .ok (.ireturn, 1) := by decide +kernel
theorem dX6_ofDrawer_91 : decode cX6_ofDrawer 91 = .ok (.aload_n 3, 1) := by decide +kernel
theorem dX6_ofDrawer_92 : decode cX6_ofDrawer 92 = .ok (.getfield 135, 3) := by decide +kernel
theorem dX6_ofDrawer_95 : decode cX6_ofDrawer 95 = .ok (.iload_n 1, 1) := by decide +kernel
theorem dX6_ofDrawer_96 : decode cX6_ofDrawer 96 = .ok (.iaload, 1) := by decide +kernel
theorem dX6_ofDrawer_97 : decode cX6_ofDrawer 97 = .ok (.ireturn, 1) := by decide +kernel
theorem dX6_ofDrawer_98 : decode cX6_ofDrawer 98 = .ok (.aload_n 3, 1) := by decide +kernel
theorem dX6_ofDrawer_99 : decode cX6_ofDrawer 99 = .ok (.getfield 138, 3) := by decide +kernel
theorem dX6_ofDrawer_102 : decode cX6_ofDrawer 102 = .ok (.iload_n 1, 1) := by decide +kernel
theorem dX6_ofDrawer_103 : decode cX6_ofDrawer 103 = .ok (.iaload, 1) := by decide +kernel
theorem dX6_ofDrawer_104 : decode cX6_ofDrawer 104 = .ok (.ireturn, 1) := by decide +kernel
theorem dX6_ofDrawer_105 : decode cX6_ofDrawer 105 = .ok (.aload_n 0, 1) := by decide +kernel
theorem dX6_ofDrawer_106 : decode cX6_ofDrawer 106 = .ok (.getfield 10, 3) := by decide +kernel
theorem dX6_ofDrawer_109 : decode cX6_ofDrawer 109 = .ok (.iload_n 1, 1) := by decide +kernel
theorem dX6_ofDrawer_110 : decode cX6_ofDrawer 110 = .ok (.invokevirtual 141, 3) := by decide +kernel
theorem dX6_ofDrawer_113 : decode cX6_ofDrawer 113 = .ok (.ireturn, 1) := by decide +kernel
theorem dX6_ofDrawer_114 : decode cX6_ofDrawer 114 = .ok (.aload_n 0, 1) := by decide +kernel
theorem dX6_ofDrawer_115 : decode cX6_ofDrawer 115 = .ok (.getfield 10, 3) := by decide +kernel
theorem dX6_ofDrawer_118 : decode cX6_ofDrawer 118 = .ok (.getfield 75, 3) := by decide +kernel
theorem dX6_ofDrawer_121 : decode cX6_ofDrawer 121 = .ok (.iload_n 1, 1) := by decide +kernel
theorem dX6_ofDrawer_122 : decode cX6_ofDrawer 122 = .ok (.iconst 1, 1) := by decide +kernel
theorem dX6_ofDrawer_123 : decode cX6_ofDrawer 123 = .ok (.invokevirtual 124, 3) := by decide +kernel
theorem dX6_ofDrawer_126 : decode cX6_ofDrawer 126 = .ok (.ireturn, 1) := by decide +kernel
theorem dX6_ofDrawer_127 : decode cX6_ofDrawer 127 = .ok (.aload_n 0, 1) := by decide +kernel
theorem dX6_ofDrawer_128 : decode cX6_ofDrawer 128 = .ok (.getfield 10, 3) := by decide +kernel
theorem dX6_ofDrawer_131 : decode cX6_ofDrawer 131 = .ok (.getfield 75, 3) := by decide +kernel
theorem dX6_ofDrawer_134 : decode cX6_ofDrawer 134 = .ok (.iload_n 1, 1) := by decide +kernel
theorem dX6_ofDrawer_135 : decode cX6_ofDrawer 135 = .ok (.iconst 2, 1) := by decide +kernel
theorem dX6_ofDrawer_136 : decode cX6_ofDrawer 136 = .ok (.invokevirtual 124, 3) := by decide +kernel
theorem dX6_ofDrawer_139 : decode cX6_ofDrawer 139 = .ok (.ireturn, 1) := by decide +kernel
theorem dX6_ofDrawer_140 : decode cX6_ofDrawer 140 = .ok (.bipush (-2), 2) := by decide +kernel
theorem dX6_ofDrawer_142 : decode cX6_ofDrawer 142 = .ok (.ireturn, 1) := by decide +kernel
set_option maxRecDepth 20000 in
theorem ggX6_letters_X3_setOf : GoodIn wsX6_letters wsX3_setOf := goodIn_r _ [8, 9, 10, 52, 53, 54, 55, 56, 57, 58, 59] (by decide +kernel) (by decide +kernel)
set_option maxRecDepth 20000 in
theorem gX6_letters_X3_setOf : GoodIn wsX6_letters (wsV RX6 144 RX3 yX3_setOf wsX3_setOf) := goodIn_app (goodIn_of _ (by decide +kernel)) ggX6_letters_X3_setOf
set_option maxRecDepth 20000 in
theorem ggX6_letters_X0_setThatWouldGo : GoodIn wsX6_letters wsX0_setThatWouldGo := goodIn_r _ [15, 16, 17, 18, 19, 20, 21, 22, 7, 23, 24, 10, 25, 26, 27, 14, 28, 29, 30, 31, 32, 33, 34, 35, 36, 37, 38, 39, 40, 41, 42, 48, 49, 50, 51, 52, 53, 54, 55, 56, 57, 58, 59, 60, 61, 62, 63] (by decide +kernel) (by decide +kernel)
set_option maxRecDepth 20000 in
theorem gX6_letters_X0_setThatWouldGo : GoodIn wsX6_letters (wsV RX6 148 RX0 yX0_setThatWouldGo wsX0_setThatWouldGo) := goodIn_app (goodIn_of _ (by decide +kernel)) ggX6_letters_X0_setThatWouldGo
theorem dX6_letters_0 : decode cX6_letters 0 = .ok (.iload_n 1, 1) := by decide +kernel
theorem dX6_letters_1 : decode cX6_letters 1 = .ok (.tableswitch 75 0 3 #[31, 43, 55, 67], 31) := by decide +kernel
theorem dX6_letters_32 : decode cX6_letters 32 = .ok (.aload_n 0, 1) := by decide +kernel
theorem dX6_letters_33 : decode cX6_letters 33 = .ok (.getfield 10, 3) := by decide +kernel
theorem dX6_letters_36 : decode cX6_letters 36 = .ok (.getfield 75, 3) := by decide +kernel
theorem dX6_letters_39 : decode cX6_letters 39 = .ok (.iconst 0, 1) := by decide +kernel
theorem dX6_letters_40 : decode cX6_letters 40 = .ok (.invokevirtual 144, 3) := by decide +kernel
theorem dX6_letters_43 : decode cX6_letters 43 = .ok (.lreturn, 1) := by decide +kernel
theorem dX6_letters_44 : decode cX6_letters 44 = .ok (.aload_n 0, 1) := by decide +kernel
theorem dX6_letters_45 : decode cX6_letters 45 = .ok (.getfield 10, 3) := by decide +kernel
theorem dX6_letters_48 : decode cX6_letters 48 = .ok (.getfield 75, 3) := by decide +kernel
theorem dX6_letters_51 : decode cX6_letters 51 = .ok (.iconst 1, 1) := by decide +kernel
theorem dX6_letters_52 : decode cX6_letters 52 = .ok (.invokevirtual 144, 3) := by decide +kernel
theorem dX6_letters_55 : decode cX6_letters 55 = .ok (.lreturn, 1) := by decide +kernel
theorem dX6_letters_56 : decode cX6_letters 56 = .ok (.aload_n 0, 1) := by decide +kernel
theorem dX6_letters_57 : decode cX6_letters 57 = .ok (.getfield 10, 3) := by decide +kernel
theorem dX6_letters_60 : decode cX6_letters 60 = .ok (.getfield 75, 3) := by decide +kernel
theorem dX6_letters_63 : decode cX6_letters 63 = .ok (.iconst 2, 1) := by decide +kernel
theorem dX6_letters_64 : decode cX6_letters 64 = .ok (.invokevirtual 144, 3) := by decide +kernel
theorem dX6_letters_67 : decode cX6_letters 67 = .ok (.lreturn, 1) := by decide +kernel
theorem dX6_letters_68 : decode cX6_letters 68 = .ok (.aload_n 0, 1) := by decide +kernel
theorem dX6_letters_69 : decode cX6_letters 69 = .ok (.getfield 10, 3) := by decide +kernel
theorem dX6_letters_72 : decode cX6_letters 72 = .ok (.invokevirtual 148, 3) := by decide +kernel
theorem dX6_letters_75 : decode cX6_letters 75 = .ok (.lreturn, 1) := by decide +kernel
theorem dX6_letters_76 : decode cX6_letters 76 = .ok (.ldc2_w 152, 3) := by decide +kernel
theorem dX6_letters_79 : decode cX6_letters 79 = .ok (.lreturn, 1) := by decide +kernel
set_option maxRecDepth 20000 in
theorem ggX6_count_X0_today : GoodIn wsX6_count wsX0_today := goodIn_r _ [14, 15, 45, 46, 47, 48] (by decide +kernel) (by decide +kernel)
set_option maxRecDepth 20000 in
theorem gX6_count_X0_today : GoodIn wsX6_count (wsV RX6 154 RX0 yX0_today wsX0_today) := goodIn_app (goodIn_of _ (by decide +kernel)) ggX6_count_X0_today
set_option maxRecDepth 20000 in
theorem ggX6_count_X0_hourOfDay : GoodIn wsX6_count wsX0_hourOfDay := goodIn_r _ [19, 15, 45, 46, 47, 48] (by decide +kernel) (by decide +kernel)
set_option maxRecDepth 20000 in
theorem gX6_count_X0_hourOfDay : GoodIn wsX6_count (wsV RX6 158 RX0 yX0_hourOfDay wsX0_hourOfDay) := goodIn_app (goodIn_of _ (by decide +kernel)) ggX6_count_X0_hourOfDay
set_option maxRecDepth 20000 in
theorem ggX6_count_X3_setOf : GoodIn wsX6_count wsX3_setOf := goodIn_r _ [24, 25, 26, 49, 50, 51, 52, 53, 54, 55, 56] (by decide +kernel) (by decide +kernel)
set_option maxRecDepth 20000 in
theorem gX6_count_X3_setOf : GoodIn wsX6_count (wsV RX6 144 RX3 yX3_setOf wsX3_setOf) := goodIn_app (goodIn_of _ (by decide +kernel)) ggX6_count_X3_setOf
set_option maxRecDepth 20000 in
theorem ggX6_count_J13_bitCount_95d88 : GoodIn wsX6_count wsJ13_bitCount_95d88 := goodIn_r _ [30, 31, 32, 33] (by decide +kernel) (by decide +kernel)
set_option maxRecDepth 20000 in
theorem gX6_count_J13_bitCount_95d88 : GoodIn wsX6_count (va_wsS RX6 165 yJ13_bitCount_95d88 wsJ13_bitCount_95d88) := goodIn_app (goodIn_of _ (by decide +kernel)) ggX6_count_J13_bitCount_95d88
set_option maxRecDepth 20000 in
theorem ggX6_count_X1_howManyLocked : GoodIn wsX6_count wsX1_howManyLocked := goodIn_r _ [38, 39, 66, 67, 68, 69] (by decide +kernel) (by decide +kernel)
set_option maxRecDepth 20000 in
theorem gX6_count_X1_howManyLocked : GoodIn wsX6_count (wsV RX6 171 RX1 yX1_howManyLocked wsX1_howManyLocked) := goodIn_app (goodIn_of _ (by decide +kernel)) ggX6_count_X1_howManyLocked
theorem dX6_count_0 : decode cX6_count 0 = .ok (.iload_n 1, 1) := by decide +kernel
theorem dX6_count_1 : decode cX6_count 1 = .ok (.tableswitch 192 0 11 #[63, 71, 79, 90, 105, 120, 135, 146, 156, 166, 176, 184], 63) := by decide +kernel
theorem dX6_count_64 : decode cX6_count 64 = .ok (.aload_n 0, 1) := by decide +kernel
theorem dX6_count_65 : decode cX6_count 65 = .ok (.getfield 10, 3) := by decide +kernel
theorem dX6_count_68 : decode cX6_count 68 = .ok (.invokevirtual 154, 3) := by decide +kernel
theorem dX6_count_71 : decode cX6_count 71 = .ok (.ireturn, 1) := by decide +kernel
theorem dX6_count_72 : decode cX6_count 72 = .ok (.aload_n 0, 1) := by decide +kernel
theorem dX6_count_73 : decode cX6_count 73 = .ok (.getfield 10, 3) := by decide +kernel
theorem dX6_count_76 : decode cX6_count 76 = .ok (.invokevirtual 158, 3) := by decide +kernel
theorem dX6_count_79 : decode cX6_count 79 = .ok (.ireturn, 1) := by decide +kernel
theorem dX6_count_80 : decode cX6_count 80 = .ok (.aload_n 0, 1) := by decide +kernel
theorem dX6_count_81 : decode cX6_count 81 = .ok (.getfield 10, 3) := by decide +kernel
theorem dX6_count_84 : decode cX6_count 84 = .ok (.getfield 75, 3) := by decide +kernel
theorem dX6_count_87 : decode cX6_count 87 = .ok (.getfield 161, 3) := by decide +kernel
theorem dX6_count_90 : decode cX6_count 90 = .ok (.ireturn, 1) := by decide +kernel
theorem dX6_count_91 : decode cX6_count 91 = .ok (.aload_n 0, 1) := by decide +kernel
theorem dX6_count_92 : decode cX6_count 92 = .ok (.getfield 10, 3) := by decide +kernel
theorem dX6_count_95 : decode cX6_count 95 = .ok (.getfield 75, 3) := by decide +kernel
theorem dX6_count_98 : decode cX6_count 98 = .ok (.iconst 0, 1) := by decide +kernel
theorem dX6_count_99 : decode cX6_count 99 = .ok (.invokevirtual 144, 3) := by decide +kernel
theorem dX6_count_102 : decode cX6_count 102 = .ok (.invokestatic 165, 3) := by decide +kernel
theorem dX6_count_105 : decode cX6_count 105 = .ok (.ireturn, 1) := by decide +kernel
theorem dX6_count_106 : decode cX6_count 106 = .ok (.aload_n 0, 1) := by decide +kernel
theorem dX6_count_107 : decode cX6_count 107 = .ok (.getfield 10, 3) := by decide +kernel
theorem dX6_count_110 : decode cX6_count 110 = .ok (.getfield 75, 3) := by decide +kernel
theorem dX6_count_113 : decode cX6_count 113 = .ok (.iconst 1, 1) := by decide +kernel
theorem dX6_count_114 : decode cX6_count 114 = .ok (.invokevirtual 144, 3) := by decide +kernel
theorem dX6_count_117 : decode cX6_count 117 = .ok (.invokestatic 165, 3) := by decide +kernel
theorem dX6_count_120 : decode cX6_count 120 = .ok (.ireturn, 1) := by decide +kernel
theorem dX6_count_121 : decode cX6_count 121 = .ok (.aload_n 0, 1) := by decide +kernel
theorem dX6_count_122 : decode cX6_count 122 = .ok (.getfield 10, 3) := by decide +kernel
theorem dX6_count_125 : decode cX6_count 125 = .ok (.getfield 75, 3) := by decide +kernel
theorem dX6_count_128 : decode cX6_count 128 = .ok (.iconst 2, 1) := by decide +kernel
theorem dX6_count_129 : decode cX6_count 129 = .ok (.invokevirtual 144, 3) := by decide +kernel
theorem dX6_count_132 : decode cX6_count 132 = .ok (.invokestatic 165, 3) := by decide +kernel
theorem dX6_count_135 : decode cX6_count 135 = .ok (.ireturn, 1) := by decide +kernel
theorem dX6_count_136 : decode cX6_count 136 = .ok (.aload_n 0, 1) := by decide +kernel
theorem dX6_count_137 : decode cX6_count 137 = .ok (.getfield 10, 3) := by decide +kernel
theorem dX6_count_140 : decode cX6_count 140 = .ok (.getfield 120, 3) := by decide +kernel
theorem dX6_count_143 : decode cX6_count 143 = .ok (.invokevirtual 171, 3) := by decide +kernel
theorem dX6_count_146 : decode cX6_count 146 = .ok (.ireturn, 1) := by decide +kernel
theorem dX6_count_147 : decode cX6_count 147 = .ok (.aload_n 0, 1) := by decide +kernel
theorem dX6_count_148 : decode cX6_count 148 = .ok (.getfield 10, 3) := by decide +kernel
theorem dX6_count_151 : decode cX6_count 151 = .ok (.getfield 174, 3) := by decide +kernel
theorem dX6_count_154 : decode cX6_count 154 = .ok (.iconst 0, 1) := by decide +kernel
theorem dX6_count_155 : decode cX6_count 155 = .ok (.iaload, 1) := by decide +kernel
theorem dX6_count_156 : decode cX6_count 156 = .ok (.ireturn, 1) := by decide +kernel
theorem dX6_count_157 : decode cX6_count 157 = .ok (.aload_n 0, 1) := by decide +kernel
theorem dX6_count_158 : decode cX6_count 158 = .ok (.getfield 10, 3) := by decide +kernel
theorem dX6_count_161 : decode cX6_count 161 = .ok (.getfield 174, 3) := by decide +kernel
theorem dX6_count_164 : decode cX6_count 164 = .ok (.iconst 1, 1) := by decide +kernel
theorem dX6_count_165 : decode cX6_count 165 = .ok (.iaload, 1) := by decide +kernel
theorem dX6_count_166 : decode cX6_count 166 = .ok (.ireturn, 1) := by decide +kernel
theorem dX6_count_167 : decode cX6_count 167 = .ok (.aload_n 0, 1) := by decide +kernel
theorem dX6_count_168 : decode cX6_count 168 = .ok (.getfield 10, 3) := by decide +kernel
theorem dX6_count_171 : decode cX6_count 171 = .ok (.getfield 174, 3) := by decide +kernel
theorem dX6_count_174 : decode cX6_count 174 = .ok (.iconst 2, 1) := by decide +kernel
theorem dX6_count_175 : decode cX6_count 175 = .ok (.iaload, 1) := by decide +kernel
theorem dX6_count_176 : decode cX6_count 176 = .ok (.ireturn, 1) := by decide +kernel
theorem dX6_count_177 : decode cX6_count 177 = .ok (.aload_n 0, 1) := by decide +kernel
theorem dX6_count_178 : decode cX6_count 178 = .ok (.getfield 26, 3) := by decide +kernel
theorem dX6_count_181 : decode cX6_count 181 = .ok (.getfield 177, 3) := by decide +kernel
theorem dX6_count_184 : decode cX6_count 184 = .ok (.ireturn, 1) := by decide +kernel
theorem dX6_count_185 : decode cX6_count 185 = .ok (.aload_n 0, 1) := by decide +kernel
theorem dX6_count_186 : decode cX6_count 186 = .ok (.getfield 33, 3) := by decide +kernel
theorem dX6_count_189 : decode cX6_count 189 = .ok (.getfield 180, 3) := by decide +kernel
theorem dX6_count_192 : decode cX6_count 192 = .ok (.ireturn, 1) := by decide +kernel
theorem dX6_count_193 : decode cX6_count 193 = .ok (.bipush (-2), 2) := by decide +kernel
theorem dX6_count_195 : decode cX6_count 195 = .ok (.ireturn, 1) := by decide +kernel
set_option maxRecDepth 20000 in
theorem ggX6_meanHeat_X3_setOf : GoodIn wsX6_meanHeat wsX3_setOf := goodIn_r _ [7, 8, 9, 36, 37, 38, 39, 40, 41, 42, 43] (by decide +kernel) (by decide +kernel)
set_option maxRecDepth 20000 in
theorem gX6_meanHeat_X3_setOf : GoodIn wsX6_meanHeat (wsV RX6 144 RX3 yX3_setOf wsX3_setOf) := goodIn_app (goodIn_of _ (by decide +kernel)) ggX6_meanHeat_X3_setOf
set_option maxRecDepth 20000 in
theorem ggX6_meanHeat_J13_bitCount_95d88 : GoodIn wsX6_meanHeat wsJ13_bitCount_95d88 := goodIn_r _ [13, 14, 15, 16] (by decide +kernel) (by decide +kernel)
set_option maxRecDepth 20000 in
theorem gX6_meanHeat_J13_bitCount_95d88 : GoodIn wsX6_meanHeat (va_wsS RX6 165 yJ13_bitCount_95d88 wsJ13_bitCount_95d88) := goodIn_app (goodIn_of _ (by decide +kernel)) ggX6_meanHeat_J13_bitCount_95d88
set_option maxRecDepth 20000 in
theorem ggX6_meanHeat_X3_heatOfSent : GoodIn wsX6_meanHeat wsX3_heatOfSent := goodIn_r _ [20, 8, 9, 21, 36, 37, 38, 39, 40, 41, 42, 43] (by decide +kernel) (by decide +kernel)
set_option maxRecDepth 20000 in
theorem gX6_meanHeat_X3_heatOfSent : GoodIn wsX6_meanHeat (wsV RX6 183 RX3 yX3_heatOfSent wsX3_heatOfSent) := goodIn_app (goodIn_of _ (by decide +kernel)) ggX6_meanHeat_X3_heatOfSent
set_option maxRecDepth 20000 in
theorem ggX6_meanHeat_X6_bitsOf : GoodIn wsX6_meanHeat wsX6_bitsOf := goodIn_r _ [25, 26] (by decide +kernel) (by decide +kernel)
set_option maxRecDepth 20000 in
theorem gX6_meanHeat_X6_bitsOf : GoodIn wsX6_meanHeat (va_wsS RX6 186 yX6_bitsOf wsX6_bitsOf) := goodIn_app (goodIn_of _ (by decide +kernel)) ggX6_meanHeat_X6_bitsOf
theorem dX6_meanHeat_0 : decode cX6_meanHeat 0 = .ok (.aload_n 0, 1) := by decide +kernel
theorem dX6_meanHeat_1 : decode cX6_meanHeat 1 = .ok (.getfield 10, 3) := by decide +kernel
theorem dX6_meanHeat_4 : decode cX6_meanHeat 4 = .ok (.getfield 75, 3) := by decide +kernel
theorem dX6_meanHeat_7 : decode cX6_meanHeat 7 = .ok (.iconst 1, 1) := by decide +kernel
theorem dX6_meanHeat_8 : decode cX6_meanHeat 8 = .ok (.invokevirtual 144, 3) := by decide +kernel
theorem dX6_meanHeat_11 : decode cX6_meanHeat 11 = .ok (.invokestatic 165, 3) := by decide +kernel
theorem dX6_meanHeat_14 : decode cX6_meanHeat 14 = .ok (.istore_n 1, 1) := by decide +kernel
theorem dX6_meanHeat_15 : decode cX6_meanHeat 15 = .ok (.iload_n 1, 1) := by decide +kernel
theorem dX6_meanHeat_16 : decode cX6_meanHeat 16 = .ok (.ifCond .ne 5, 3) := by decide +kernel
theorem dX6_meanHeat_19 : decode cX6_meanHeat 19 = .ok (.lconst 0, 1) := by decide +kernel
theorem dX6_meanHeat_20 : decode cX6_meanHeat 20 = .ok (.lreturn, 1) := by decide +kernel
theorem dX6_meanHeat_21 : decode cX6_meanHeat 21 = .ok (.aload_n 0, 1) := by decide +kernel
theorem dX6_meanHeat_22 : decode cX6_meanHeat 22 = .ok (.getfield 10, 3) := by decide +kernel
theorem dX6_meanHeat_25 : decode cX6_meanHeat 25 = .ok (.getfield 75, 3) := by decide +kernel
theorem dX6_meanHeat_28 : decode cX6_meanHeat 28 = .ok (.invokevirtual 183, 3) := by decide +kernel
theorem dX6_meanHeat_31 : decode cX6_meanHeat 31 = .ok (.i2d, 1) := by decide +kernel
theorem dX6_meanHeat_32 : decode cX6_meanHeat 32 = .ok (.iload_n 1, 1) := by decide +kernel
theorem dX6_meanHeat_33 : decode cX6_meanHeat 33 = .ok (.i2d, 1) := by decide +kernel
theorem dX6_meanHeat_34 : decode cX6_meanHeat 34 = .ok (.ddiv, 1) := by decide +kernel
theorem dX6_meanHeat_35 : decode cX6_meanHeat 35 = .ok (.sipush 1023, 3) := by decide +kernel
theorem dX6_meanHeat_38 : decode cX6_meanHeat 38 = .ok (.bipush 52, 2) := by decide +kernel
theorem dX6_meanHeat_40 : decode cX6_meanHeat 40 = .ok (.invokestatic 186, 3) := by decide +kernel
theorem dX6_meanHeat_43 : decode cX6_meanHeat 43 = .ok (.lreturn, 1) := by decide +kernel
set_option maxRecDepth 20000 in
theorem ggX6_share_X3_setOf : GoodIn wsX6_share wsX3_setOf := goodIn_r _ [8, 9, 10, 32, 33, 34, 35, 36, 37, 38, 39] (by decide +kernel) (by decide +kernel)
set_option maxRecDepth 20000 in
theorem gX6_share_X3_setOf : GoodIn wsX6_share (wsV RX6 144 RX3 yX3_setOf wsX3_setOf) := goodIn_app (goodIn_of _ (by decide +kernel)) ggX6_share_X3_setOf
set_option maxRecDepth 20000 in
theorem ggX6_share_J13_bitCount_95d88 : GoodIn wsX6_share wsJ13_bitCount_95d88 := goodIn_r _ [14, 15, 16, 17] (by decide +kernel) (by decide +kernel)
set_option maxRecDepth 20000 in
theorem gX6_share_J13_bitCount_95d88 : GoodIn wsX6_share (va_wsS RX6 165 yJ13_bitCount_95d88 wsJ13_bitCount_95d88) := goodIn_app (goodIn_of _ (by decide +kernel)) ggX6_share_J13_bitCount_95d88
set_option maxRecDepth 20000 in
theorem ggX6_share_X6_bitsOf : GoodIn wsX6_share wsX6_bitsOf := goodIn_r _ [21, 22] (by decide +kernel) (by decide +kernel)
set_option maxRecDepth 20000 in
theorem gX6_share_X6_bitsOf : GoodIn wsX6_share (va_wsS RX6 186 yX6_bitsOf wsX6_bitsOf) := goodIn_app (goodIn_of _ (by decide +kernel)) ggX6_share_X6_bitsOf
theorem dX6_share_0 : decode cX6_share 0 = .ok (.aload_n 0, 1) := by decide +kernel
theorem dX6_share_1 : decode cX6_share 1 = .ok (.getfield 10, 3) := by decide +kernel
theorem dX6_share_4 : decode cX6_share 4 = .ok (.getfield 75, 3) := by decide +kernel
theorem dX6_share_7 : decode cX6_share 7 = .ok (.getfield 161, 3) := by decide +kernel
theorem dX6_share_10 : decode cX6_share 10 = .ok (.istore_n 1, 1) := by decide +kernel
theorem dX6_share_11 : decode cX6_share 11 = .ok (.iload_n 1, 1) := by decide +kernel
theorem dX6_share_12 : decode cX6_share 12 = .ok (.ifCond .ne 6, 3) := by decide +kernel
theorem dX6_share_15 : decode cX6_share 15 = .ok (.bipush (-6), 2) := by decide +kernel
theorem dX6_share_17 : decode cX6_share 17 = .ok (.ireturn, 1) := by decide +kernel
theorem dX6_share_18 : decode cX6_share 18 = .ok (.aload_n 0, 1) := by decide +kernel
theorem dX6_share_19 : decode cX6_share 19 = .ok (.getfield 10, 3) := by decide +kernel
theorem dX6_share_22 : decode cX6_share 22 = .ok (.getfield 75, 3) := by decide +kernel
theorem dX6_share_25 : decode cX6_share 25 = .ok (.iconst 1, 1) := by decide +kernel
theorem dX6_share_26 : decode cX6_share 26 = .ok (.invokevirtual 144, 3) := by decide +kernel
theorem dX6_share_29 : decode cX6_share 29 = .ok (.invokestatic 165, 3) := by decide +kernel
theorem dX6_share_32 : decode cX6_share 32 = .ok (.istore_n 2, 1) := by decide +kernel
theorem dX6_share_33 : decode cX6_share 33 = .ok (.iload_n 2, 1) := by decide +kernel
theorem dX6_share_34 : decode cX6_share 34 = .ok (.i2f, 1) := by decide +kernel
theorem dX6_share_35 : decode cX6_share 35 = .ok (.iload_n 1, 1) := by decide +kernel
theorem dX6_share_36 : decode cX6_share 36 = .ok (.i2f, 1) := by decide +kernel
theorem dX6_share_37 : decode cX6_share 37 = .ok (.fdiv, 1) := by decide +kernel
theorem dX6_share_38 : decode cX6_share 38 = .ok (.fstore_n 3, 1) := by decide +kernel
theorem dX6_share_39 : decode cX6_share 39 = .ok (.fload_n 3, 1) := by decide +kernel
theorem dX6_share_40 : decode cX6_share 40 = .ok (.f2d, 1) := by decide +kernel
theorem dX6_share_41 : decode cX6_share 41 = .ok (.bipush 127, 2) := by decide +kernel
theorem dX6_share_43 : decode cX6_share 43 = .ok (.bipush 23, 2) := by decide +kernel
theorem dX6_share_45 : decode cX6_share 45 = .ok (.invokestatic 186, 3) := by decide +kernel
theorem dX6_share_48 : decode cX6_share 48 = .ok (.l2i, 1) := by decide +kernel
theorem dX6_share_49 : decode cX6_share 49 = .ok (.ireturn, 1) := by decide +kernel
set_option maxRecDepth 20000 in
theorem ggX6_goesIn_X3_isLetter : GoodIn wsX6_goesIn wsX3_isLetter := goodIn_r _ [9, 10, 61, 62, 63, 64, 65, 66, 67, 68] (by decide +kernel) (by decide +kernel)
set_option maxRecDepth 20000 in
theorem gX6_goesIn_X3_isLetter : GoodIn wsX6_goesIn (wsV RX6 79 RX3 yX3_isLetter wsX3_isLetter) := goodIn_app (goodIn_of _ (by decide +kernel)) ggX6_goesIn_X3_isLetter
set_option maxRecDepth 20000 in
theorem ggX6_goesIn_X0_hoursTillSent : GoodIn wsX6_goesIn wsX0_hoursTillSent := goodIn_r _ [15, 16, 17, 18, 19, 20, 21, 22, 23, 24, 25, 26, 27, 28, 29, 14, 30, 31, 32, 33, 34, 35, 36, 37, 38, 39, 40, 41, 42, 43, 44, 45, 46, 47, 48, 49, 50, 51, 57, 58, 59, 60, 61, 62, 63, 64, 65, 66, 67, 68, 69, 70, 71, 72] (by decide +kernel) (by decide +kernel)
set_option maxRecDepth 20000 in
theorem gX6_goesIn_X0_hoursTillSent : GoodIn wsX6_goesIn (wsV RX6 190 RX0 yX0_hoursTillSent wsX0_hoursTillSent) := goodIn_app (goodIn_of _ (by decide +kernel)) ggX6_goesIn_X0_hoursTillSent
theorem dX6_goesIn_0 : decode cX6_goesIn 0 = .ok (.aload_n 0, 1) := by decide +kernel
theorem dX6_goesIn_1 : decode cX6_goesIn 1 = .ok (.getfield 10, 3) := by decide +kernel
theorem dX6_goesIn_4 : decode cX6_goesIn 4 = .ok (.getfield 75, 3) := by decide +kernel
theorem dX6_goesIn_7 : decode cX6_goesIn 7 = .ok (.astore_n 2, 1) := by decide +kernel
theorem dX6_goesIn_8 : decode cX6_goesIn 8 = .ok (.aload_n 2, 1) := by decide +kernel
theorem dX6_goesIn_9 : decode cX6_goesIn 9 = .ok (.iload_n 1, 1) := by decide +kernel
theorem dX6_goesIn_10 : decode cX6_goesIn 10 = .ok (.invokevirtual 79, 3) := by decide +kernel
theorem dX6_goesIn_13 : decode cX6_goesIn 13 = .ok (.ifCond .ne 5, 3) := by decide +kernel
theorem dX6_goesIn_16 : decode cX6_goesIn 16 = .ok (.iconst (-1), 1) := by decide +kernel
theorem dX6_goesIn_17 : decode cX6_goesIn 17 = .ok (.ireturn, 1) := by decide +kernel
theorem dX6_goesIn_18 : decode cX6_goesIn 18 = .ok (.aload_n 2, 1) := by decide +kernel
theorem dX6_goesIn_19 : decode cX6_goesIn 19 = .ok (.getfield 98, 3) := by decide +kernel
theorem dX6_goesIn_22 : decode cX6_goesIn 22 = .ok (.iload_n 1, 1) := by decide +kernel
theorem dX6_goesIn_23 : decode cX6_goesIn 23 = .ok (.iaload, 1) := by decide +kernel
theorem dX6_goesIn_24 : decode cX6_goesIn 24 = .ok (.iconst 2, 1) := by decide +kernel
theorem dX6_goesIn_25 : decode cX6_goesIn 25 = .ok (.if_icmp .ne 6, 3) := by decide +kernel
theorem dX6_goesIn_28 : decode cX6_goesIn 28 = .ok (.bipush (-5), 2) := by decide +kernel
theorem dX6_goesIn_30 : decode cX6_goesIn 30 = .ok (.ireturn, 1) := by decide +kernel
theorem dX6_goesIn_31 : decode cX6_goesIn 31 = .ok (.aload_n 2, 1) := by decide +kernel
theorem dX6_goesIn_32 : decode cX6_goesIn 32 = .ok (.getfield 98, 3) := by decide +kernel
theorem dX6_goesIn_35 : decode cX6_goesIn 35 = .ok (.iload_n 1, 1) := by decide +kernel
theorem dX6_goesIn_36 : decode cX6_goesIn 36 = .ok (.iaload, 1) := by decide +kernel
theorem dX6_goesIn_37 : decode cX6_goesIn 37 = .ok (.iconst 1, 1) := by decide +kernel
theorem dX6_goesIn_38 : decode cX6_goesIn 38 = .ok (.if_icmp .ne 5, 3) := by decide +kernel
theorem dX6_goesIn_41 : decode cX6_goesIn 41 = .ok (.iconst 0, 1) := by decide +kernel
theorem dX6_goesIn_42 : decode cX6_goesIn 42 = .ok (.ireturn, 1) := by decide +kernel
theorem dX6_goesIn_43 : decode cX6_goesIn 43 = .ok (.aload_n 0, 1) := by decide +kernel
theorem dX6_goesIn_44 : decode cX6_goesIn 44 = .ok (.getfield 10, 3) := by decide +kernel
theorem dX6_goesIn_47 : decode cX6_goesIn 47 = .ok (.iload_n 1, 1) := by decide +kernel
theorem dX6_goesIn_48 : decode cX6_goesIn 48 = .ok (.aload_n 0, 1) := by decide +kernel
theorem dX6_goesIn_49 : decode cX6_goesIn 49 = .ok (.getfield 10, 3) := by decide +kernel
theorem dX6_goesIn_52 : decode cX6_goesIn 52 = .ok (.getfield 174, 3) := by decide +kernel
theorem dX6_goesIn_55 : decode cX6_goesIn 55 = .ok (.iconst 0, 1) := by decide +kernel
theorem dX6_goesIn_56 : decode cX6_goesIn 56 = .ok (.iaload, 1) := by decide +kernel
theorem dX6_goesIn_57 : decode cX6_goesIn 57 = .ok (.sipush 1200, 3) := by decide +kernel
theorem dX6_goesIn_60 : decode cX6_goesIn 60 = .ok (.invokevirtual 190, 3) := by decide +kernel
theorem dX6_goesIn_63 : decode cX6_goesIn 63 = .ok (.ireturn, 1) := by decide +kernel
set_option maxRecDepth 20000 in
theorem ggX6_bestPost_X0_sentWithin : GoodIn wsX6_bestPost wsX0_sentWithin := goodIn_r _ [6, 7, 8, 9, 10, 11, 12, 5, 13, 14, 15, 16, 17, 18, 19, 20, 21, 22, 23, 24, 25, 26, 27, 28, 29, 30, 31, 32, 33, 34, 35, 36, 37, 38, 39, 40, 41, 42, 43, 44, 45, 46, 47, 48, 54, 55, 56, 57, 58, 59, 60, 61, 62, 63, 64, 65, 66, 67, 68, 69] (by decide +kernel) (by decide +kernel)
set_option maxRecDepth 20000 in
theorem gX6_bestPost_X0_sentWithin : GoodIn wsX6_bestPost (wsV RX6 193 RX0 yX0_sentWithin wsX0_sentWithin) := goodIn_app (goodIn_of _ (by decide +kernel)) ggX6_bestPost_X0_sentWithin
theorem dX6_bestPost_0 : decode cX6_bestPost 0 = .ok (.iload_n 1, 1) := by decide +kernel
theorem dX6_bestPost_1 : decode cX6_bestPost 1 = .ok (.iconst 1, 1) := by decide +kernel
theorem dX6_bestPost_2 : decode cX6_bestPost 2 = .ok (.if_icmp .lt 18, 3) := by decide +kernel
theorem dX6_bestPost_5 : decode cX6_bestPost 5 = .ok (.iload_n 1, 1) := by decide +kernel
theorem dX6_bestPost_6 : decode cX6_bestPost 6 = .ok (.bipush 20, 2) := by decide +kernel
theorem dX6_bestPost_8 : decode cX6_bestPost 8 = .ok (.if_icmp .gt 12, 3) := by decide +kernel
theorem dX6_bestPost_11 : decode cX6_bestPost 11 = .ok (.iload_n 2, 1) := by decide +kernel
theorem dX6_bestPost_12 : decode cX6_bestPost 12 = .ok (.ifCond .lt 8, 3) := by decide +kernel
theorem dX6_bestPost_15 : decode cX6_bestPost 15 = .ok (.iload_n 2, 1) := by decide +kernel
theorem dX6_bestPost_16 : decode cX6_bestPost 16 = .ok (.iconst 1, 1) := by decide +kernel
theorem dX6_bestPost_17 : decode cX6_bestPost 17 = .ok (.if_icmp .le 6, 3) := by decide +kernel
theorem dX6_bestPost_20 : decode cX6_bestPost 20 = .ok (.bipush (-2), 2) := by decide +kernel
theorem dX6_bestPost_22 : decode cX6_bestPost 22 = .ok (.ireturn, 1) := by decide +kernel
theorem dX6_bestPost_23 : decode cX6_bestPost 23 = .ok (.iconst 0, 1) := by decide +kernel
theorem dX6_bestPost_24 : decode cX6_bestPost 24 = .ok (.istore_n 3, 1) := by decide +kernel
theorem dX6_bestPost_25 : decode cX6_bestPost 25 = .ok (.iconst 0, 1) := by decide +kernel
theorem dX6_bestPost_26 : decode cX6_bestPost 26 = .ok (.istore 4, 2) := by decide +kernel
theorem dX6_bestPost_28 : decode cX6_bestPost 28 = .ok (.iconst 0, 1) := by decide +kernel
theorem dX6_bestPost_29 : decode cX6_bestPost 29 = .ok (.istore 5, 2) := by decide +kernel
theorem dX6_bestPost_31 : decode cX6_bestPost 31 = .ok (.iload 5, 2) := by decide +kernel
theorem dX6_bestPost_33 : decode cX6_bestPost 33 = .ok (.bipush 24, 2) := by decide +kernel
theorem dX6_bestPost_35 : decode cX6_bestPost 35 = .ok (.if_icmp .ge 38, 3) := by decide +kernel
theorem dX6_bestPost_38 : decode cX6_bestPost 38 = .ok (.aload_n 0, 1) := by decide +kernel
theorem dX6_bestPost_39 : decode cX6_bestPost 39 = .ok (.getfield 10, 3) := by decide +kernel
theorem dX6_bestPost_42 : decode cX6_bestPost 42 = .ok (.iload 5, 2) := by decide +kernel
theorem dX6_bestPost_44 : decode cX6_bestPost 44 = .ok (.iload_n 1, 1) := by decide +kernel
theorem dX6_bestPost_45 : decode cX6_bestPost 45 = .ok (.bipush 24, 2) := by decide +kernel
theorem dX6_bestPost_47 : decode cX6_bestPost 47 = .ok (.imul, 1) := by decide +kernel
theorem dX6_bestPost_48 : decode cX6_bestPost 48 = .ok (.invokevirtual 193, 3) := by decide +kernel
theorem dX6_bestPost_51 : decode cX6_bestPost 51 = .ok (.istore 6, 2) := by decide +kernel
theorem dX6_bestPost_53 : decode cX6_bestPost 53 = .ok (.iload 6, 2) := by decide +kernel
theorem dX6_bestPost_55 : decode cX6_bestPost 55 = .ok (.iload 4, 2) := by decide +kernel
theorem dX6_bestPost_57 : decode cX6_bestPost 57 = .ok (.if_icmp .le 10, 3) := by decide +kernel
theorem dX6_bestPost_60 : decode cX6_bestPost 60 = .ok (.iload 5, 2) := by decide +kernel
theorem dX6_bestPost_62 : decode cX6_bestPost 62 = .ok (.istore_n 3, 1) := by decide +kernel
theorem dX6_bestPost_63 : decode cX6_bestPost 63 = .ok (.iload 6, 2) := by decide +kernel
theorem dX6_bestPost_65 : decode cX6_bestPost 65 = .ok (.istore 4, 2) := by decide +kernel
theorem dX6_bestPost_67 : decode cX6_bestPost 67 = .ok (.iinc 5 1, 3) := by decide +kernel
theorem dX6_bestPost_70 : decode cX6_bestPost 70 = .ok (.goto (-39), 3) := by decide +kernel
theorem dX6_bestPost_73 : decode cX6_bestPost 73 = .ok (.iload_n 2, 1) := by decide +kernel
theorem dX6_bestPost_74 : decode cX6_bestPost 74 = .ok (.ifCond .ne 7, 3) := by decide +kernel
theorem dX6_bestPost_77 : decode cX6_bestPost 77 = .ok (.iload_n 3, 1) := by decide +kernel
theorem dX6_bestPost_78 : decode cX6_bestPost 78 = .ok (.goto 5, 3) := by decide +kernel
theorem dX6_bestPost_81 : decode cX6_bestPost 81 = .ok (.iload 4, 2) := by decide +kernel
theorem dX6_bestPost_83 : decode cX6_bestPost 83 = .ok (.ireturn, 1) := by decide +kernel
set_option maxRecDepth 20000 in
theorem ggX6_mostRegretted_X5_greatest : GoodIn wsX6_mostRegretted wsX5_greatest := goodIn_r _ [7, 8, 9, 10, 11, 12, 13, 14, 6, 15, 16, 17, 18, 19, 20, 21, 22, 23, 24, 25, 26, 27, 28, 29, 30, 31, 32, 33, 34, 35, 36, 37, 38, 39, 40, 41, 42, 43, 49, 50, 51, 52, 53, 54, 55, 56, 57, 58, 59, 60, 61] (by decide +kernel) (by decide +kernel)
set_option maxRecDepth 20000 in
theorem gX6_mostRegretted_X5_greatest : GoodIn wsX6_mostRegretted (wsV RX6 196 RX5 yX5_greatest wsX5_greatest) := goodIn_app (goodIn_of _ (by decide +kernel)) ggX6_mostRegretted_X5_greatest
theorem dX6_mostRegretted_0 : decode cX6_mostRegretted 0 = .ok (.aload_n 0, 1) := by decide +kernel
theorem dX6_mostRegretted_1 : decode cX6_mostRegretted 1 = .ok (.getfield 19, 3) := by decide +kernel
theorem dX6_mostRegretted_4 : decode cX6_mostRegretted 4 = .ok (.aload_n 0, 1) := by decide +kernel
theorem dX6_mostRegretted_5 : decode cX6_mostRegretted 5 = .ok (.getfield 10, 3) := by decide +kernel
theorem dX6_mostRegretted_8 : decode cX6_mostRegretted 8 = .ok (.invokevirtual 196, 3) := by decide +kernel
theorem dX6_mostRegretted_11 : decode cX6_mostRegretted 11 = .ok (.ireturn, 1) := by decide +kernel
set_option maxRecDepth 20000 in
theorem ggX6_ifSent_X3_isLetter : GoodIn wsX6_ifSent wsX3_isLetter := goodIn_r _ [9, 10, 56, 57, 58, 59, 60, 61, 62, 63] (by decide +kernel) (by decide +kernel)
set_option maxRecDepth 20000 in
theorem gX6_ifSent_X3_isLetter : GoodIn wsX6_ifSent (wsV RX6 79 RX3 yX3_isLetter wsX3_isLetter) := goodIn_app (goodIn_of _ (by decide +kernel)) ggX6_ifSent_X3_isLetter
set_option maxRecDepth 20000 in
theorem ggX6_ifSent_X5_withSent : GoodIn wsX6_ifSent wsX5_withSent := goodIn_r _ [15, 16, 17, 18, 19, 14, 20, 21, 22, 23, 24, 25, 26, 27, 28, 29, 30, 31, 32, 33, 34, 35, 36, 37, 38, 39, 40, 41, 42, 43, 44, 45, 46, 6, 7, 8, 9, 10, 64, 52, 53, 54, 55, 56, 57, 58, 59, 60, 61, 62, 63] (by decide +kernel) (by decide +kernel)
set_option maxRecDepth 20000 in
theorem gX6_ifSent_X5_withSent : GoodIn wsX6_ifSent (wsV RX6 200 RX5 yX5_withSent wsX5_withSent) := goodIn_app (goodIn_of _ (by decide +kernel)) ggX6_ifSent_X5_withSent
theorem dX6_ifSent_0 : decode cX6_ifSent 0 = .ok (.aload_n 0, 1) := by decide +kernel
theorem dX6_ifSent_1 : decode cX6_ifSent 1 = .ok (.getfield 10, 3) := by decide +kernel
theorem dX6_ifSent_4 : decode cX6_ifSent 4 = .ok (.getfield 75, 3) := by decide +kernel
theorem dX6_ifSent_7 : decode cX6_ifSent 7 = .ok (.astore_n 3, 1) := by decide +kernel
theorem dX6_ifSent_8 : decode cX6_ifSent 8 = .ok (.aload_n 3, 1) := by decide +kernel
theorem dX6_ifSent_9 : decode cX6_ifSent 9 = .ok (.iload_n 1, 1) := by decide +kernel
theorem dX6_ifSent_10 : decode cX6_ifSent 10 = .ok (.invokevirtual 79, 3) := by decide +kernel
theorem dX6_ifSent_13 : decode cX6_ifSent 13 = .ok (.ifCond .eq 11, 3) := by decide +kernel
theorem dX6_ifSent_16 : decode cX6_ifSent 16 = .ok (.aload_n 3, 1) := by decide +kernel
theorem dX6_ifSent_17 : decode cX6_ifSent 17 = .ok (.iload_n 2, 1) := by decide +kernel
theorem dX6_ifSent_18 : decode cX6_ifSent 18 = .ok (.invokevirtual 79, 3) := by decide +kernel
theorem dX6_ifSent_21 : decode cX6_ifSent 21 = .ok (.ifCond .ne 5, 3) := by decide +kernel
theorem dX6_ifSent_24 : decode cX6_ifSent 24 = .ok (.iconst (-1), 1) := by decide +kernel
theorem dX6_ifSent_25 : decode cX6_ifSent 25 = .ok (.ireturn, 1) := by decide +kernel
theorem dX6_ifSent_26 : decode cX6_ifSent 26 = .ok (.aload_n 3, 1) := by decide +kernel
theorem dX6_ifSent_27 : decode cX6_ifSent 27 = .ok (.getfield 98, 3) := by decide +kernel
theorem dX6_ifSent_30 : decode cX6_ifSent 30 = .ok (.iload_n 1, 1) := by decide +kernel
theorem dX6_ifSent_31 : decode cX6_ifSent 31 = .ok (.iaload, 1) := by decide +kernel
theorem dX6_ifSent_32 : decode cX6_ifSent 32 = .ok (.iconst 1, 1) := by decide +kernel
theorem dX6_ifSent_33 : decode cX6_ifSent 33 = .ok (.if_icmp .ne 12, 3) := by decide +kernel
theorem dX6_ifSent_36 : decode cX6_ifSent 36 = .ok (.aload_n 3, 1) := by decide +kernel
theorem dX6_ifSent_37 : decode cX6_ifSent 37 = .ok (.getfield 98, 3) := by decide +kernel
theorem dX6_ifSent_40 : decode cX6_ifSent 40 = .ok (.iload_n 2, 1) := by decide +kernel
theorem dX6_ifSent_41 : decode cX6_ifSent 41 = .ok (.iaload, 1) := by decide +kernel
theorem dX6_ifSent_42 : decode cX6_ifSent 42 = .ok (.ifCond .eq 6, 3) := by decide +kernel
theorem dX6_ifSent_45 : decode cX6_ifSent 45 = .ok (.bipush (-5), 2) := by decide +kernel
theorem dX6_ifSent_47 : decode cX6_ifSent 47 = .ok (.ireturn, 1) := by decide +kernel
theorem dX6_ifSent_48 : decode cX6_ifSent 48 = .ok (.aload_n 0, 1) := by decide +kernel
theorem dX6_ifSent_49 : decode cX6_ifSent 49 = .ok (.getfield 19, 3) := by decide +kernel
theorem dX6_ifSent_52 : decode cX6_ifSent 52 = .ok (.aload_n 0, 1) := by decide +kernel
theorem dX6_ifSent_53 : decode cX6_ifSent 53 = .ok (.getfield 10, 3) := by decide +kernel
theorem dX6_ifSent_56 : decode cX6_ifSent 56 = .ok (.iload_n 1, 1) := by decide +kernel
theorem dX6_ifSent_57 : decode cX6_ifSent 57 = .ok (.iload_n 2, 1) := by decide +kernel
theorem dX6_ifSent_58 : decode cX6_ifSent 58 = .ok (.invokevirtual 200, 3) := by decide +kernel
theorem dX6_ifSent_61 : decode cX6_ifSent 61 = .ok (.ireturn, 1) := by decide +kernel
set_option maxRecDepth 20000 in
theorem ggX6_put_X6_charactersIn : GoodIn wsX6_put wsX6_charactersIn := goodIn_r _ [7, 3, 8, 9] (by decide +kernel) (by decide +kernel)
set_option maxRecDepth 20000 in
theorem gX6_put_X6_charactersIn : GoodIn wsX6_put (va_wsS RX6 204 yX6_charactersIn wsX6_charactersIn) := goodIn_app (goodIn_of _ (by decide +kernel)) ggX6_put_X6_charactersIn
set_option maxRecDepth 20000 in
theorem ggX6_put_X4_append : GoodIn wsX6_put wsX4_append := goodIn_r _ [14, 15, 16, 22, 23, 24, 25, 26, 27, 28] (by decide +kernel) (by decide +kernel)
set_option maxRecDepth 20000 in
theorem gX6_put_X4_append : GoodIn wsX6_put (wsV RX6 209 RX4 yX4_append wsX4_append) := goodIn_app (goodIn_of _ (by decide +kernel)) ggX6_put_X4_append
theorem dX6_put_0 : decode cX6_put 0 = .ok (.lload_n 1, 1) := by decide +kernel
theorem dX6_put_1 : decode cX6_put 1 = .ok (.invokestatic 204, 3) := by decide +kernel
theorem dX6_put_4 : decode cX6_put 4 = .ok (.istore_n 3, 1) := by decide +kernel
theorem dX6_put_5 : decode cX6_put 5 = .ok (.iload_n 3, 1) := by decide +kernel
theorem dX6_put_6 : decode cX6_put 6 = .ok (.ifCond .ne 6, 3) := by decide +kernel
theorem dX6_put_9 : decode cX6_put 9 = .ok (.bipush (-2), 2) := by decide +kernel
theorem dX6_put_11 : decode cX6_put 11 = .ok (.ireturn, 1) := by decide +kernel
theorem dX6_put_12 : decode cX6_put 12 = .ok (.aload_n 0, 1) := by decide +kernel
theorem dX6_put_13 : decode cX6_put 13 = .ok (.getfield 26, 3) := by decide +kernel
theorem dX6_put_16 : decode cX6_put 16 = .ok (.getfield 177, 3) := by decide +kernel
theorem dX6_put_19 : decode cX6_put 19 = .ok (.iload_n 3, 1) := by decide +kernel
theorem dX6_put_20 : decode cX6_put 20 = .ok (.iadd, 1) := by decide +kernel
theorem dX6_put_21 : decode cX6_put 21 = .ok (.bipush 80, 2) := by decide +kernel
theorem dX6_put_23 : decode cX6_put 23 = .ok (.if_icmp .le 6, 3) := by decide +kernel
theorem dX6_put_26 : decode cX6_put 26 = .ok (.bipush (-4), 2) := by decide +kernel
theorem dX6_put_28 : decode cX6_put 28 = .ok (.ireturn, 1) := by decide +kernel
theorem dX6_put_29 : decode cX6_put 29 = .ok (.iload_n 3, 1) := by decide +kernel
theorem dX6_put_30 : decode cX6_put 30 = .ok (.iconst 1, 1) := by decide +kernel
theorem dX6_put_31 : decode cX6_put 31 = .ok (.isub, 1) := by decide +kernel
theorem dX6_put_32 : decode cX6_put 32 = .ok (.istore 4, 2) := by decide +kernel
theorem dX6_put_34 : decode cX6_put 34 = .ok (.iload 4, 2) := by decide +kernel
theorem dX6_put_36 : decode cX6_put 36 = .ok (.ifCond .lt 29, 3) := by decide +kernel
theorem dX6_put_39 : decode cX6_put 39 = .ok (.aload_n 0, 1) := by decide +kernel
theorem dX6_put_40 : decode cX6_put 40 = .ok (.getfield 26, 3) := by decide +kernel
theorem dX6_put_43 : decode cX6_put 43 = .ok (.lload_n 1, 1) := by decide +kernel
theorem dX6_put_44 : decode cX6_put 44 = .ok (.bipush 8, 2) := by decide +kernel
theorem dX6_put_46 : decode cX6_put 46 = .ok (.iload 4, 2) := by decide +kernel
theorem dX6_put_48 : decode cX6_put 48 = .ok (.imul, 1) := by decide +kernel
theorem dX6_put_49 : decode cX6_put 49 = .ok (.lushr, 1) := by decide +kernel
theorem dX6_put_50 : decode cX6_put 50 = .ok (.ldc2_w 207, 3) := by decide +kernel
theorem dX6_put_53 : decode cX6_put 53 = .ok (.land, 1) := by decide +kernel
end
section
theorem dX6_put_54 : decode cX6_put 54 = .ok (.l2i, 1) := by decide +kernel
theorem dX6_put_55 : decode cX6_put 55 = .ok (.i2c, 1) := by decide +kernel
theorem dX6_put_56 : decode cX6_put 56 = .ok (.invokevirtual 209, 3) := by decide +kernel
theorem dX6_put_59 : decode cX6_put 59 = .ok (.iinc 4 (-1), 3) := by decide +kernel
theorem dX6_put_62 : decode cX6_put 62 = .ok (.goto (-28), 3) := by decide +kernel
theorem dX6_put_65 : decode cX6_put 65 = .ok (.aload_n 0, 1) := by decide +kernel
theorem dX6_put_66 : decode cX6_put 66 = .ok (.getfield 26, 3) := by decide +kernel
theorem dX6_put_69 : decode cX6_put 69 = .ok (.getfield 177, 3) := by decide +kernel
theorem dX6_put_72 : decode cX6_put 72 = .ok (.ireturn, 1) := by decide +kernel
theorem dX6_wipe_0 : decode cX6_wipe 0 = .ok (.aload_n 0, 1) := by decide +kernel
theorem dX6_wipe_1 : decode cX6_wipe 1 = .ok (.getfield 26, 3) := by decide +kernel
theorem dX6_wipe_4 : decode cX6_wipe 4 = .ok (.getfield 177, 3) := by decide +kernel
theorem dX6_wipe_7 : decode cX6_wipe 7 = .ok (.istore_n 1, 1) := by decide +kernel
theorem dX6_wipe_8 : decode cX6_wipe 8 = .ok (.aload_n 0, 1) := by decide +kernel
theorem dX6_wipe_9 : decode cX6_wipe 9 = .ok (.getfield 26, 3) := by decide +kernel
theorem dX6_wipe_12 : decode cX6_wipe 12 = .ok (.iconst 0, 1) := by decide +kernel
theorem dX6_wipe_13 : decode cX6_wipe 13 = .ok (.putfield 177, 3) := by decide +kernel
theorem dX6_wipe_16 : decode cX6_wipe 16 = .ok (.iload_n 1, 1) := by decide +kernel
theorem dX6_wipe_17 : decode cX6_wipe 17 = .ok (.ireturn, 1) := by decide +kernel
set_option maxRecDepth 20000 in
theorem ggX6_fault_X4_faultIndex : GoodIn wsX6_fault wsX4_faultIndex := goodIn_r _ [6, 7, 8, 9, 10, 11, 5, 12, 13, 14, 15, 16, 17, 18, 19, 20, 21, 22, 23, 24, 25, 26, 27, 28, 29, 30, 31, 32, 33, 34, 35, 36, 37, 38, 39, 40, 41, 42, 43, 44, 45, 46, 47, 53, 54, 55, 56, 57, 58, 59] (by decide +kernel) (by decide +kernel)
set_option maxRecDepth 20000 in
theorem gX6_fault_X4_faultIndex : GoodIn wsX6_fault (wsV RX6 213 RX4 yX4_faultIndex wsX4_faultIndex) := goodIn_app (goodIn_of _ (by decide +kernel)) ggX6_fault_X4_faultIndex
theorem dX6_fault_0 : decode cX6_fault 0 = .ok (.aload_n 0, 1) := by decide +kernel
theorem dX6_fault_1 : decode cX6_fault 1 = .ok (.getfield 26, 3) := by decide +kernel
theorem dX6_fault_4 : decode cX6_fault 4 = .ok (.invokevirtual 213, 3) := by decide +kernel
theorem dX6_fault_7 : decode cX6_fault 7 = .ok (.ireturn, 1) := by decide +kernel
set_option maxRecDepth 20000 in
theorem ggX6_carryOut_X4_faultIndex : GoodIn wsX6_carryOut wsX4_faultIndex := goodIn_r _ [9, 10, 11, 12, 13, 14, 8, 15, 16, 17, 18, 19, 20, 21, 22, 23, 24, 25, 26, 27, 28, 29, 30, 31, 32, 33, 34, 35, 36, 37, 38, 39, 40, 41, 42, 43, 44, 45, 46, 47, 48, 49, 50, 234, 235, 236, 237, 238, 239, 240] (by decide +kernel) (by decide +kernel)
set_option maxRecDepth 20000 in
theorem gX6_carryOut_X4_faultIndex : GoodIn wsX6_carryOut (wsV RX6 213 RX4 yX4_faultIndex wsX4_faultIndex) := goodIn_app (goodIn_of _ (by decide +kernel)) ggX6_carryOut_X4_faultIndex
set_option maxRecDepth 20000 in
theorem ggX6_carryOut_X2_prepare : GoodIn wsX6_carryOut wsX2_prepare := goodIn_r _ [55, 56, 57, 58, 59, 60, 61, 62, 63, 64, 65, 66, 67, 68, 69, 70, 71, 72, 73, 74, 75, 76, 77, 78, 79, 80, 81, 82, 83, 84, 85, 86, 87, 88, 89, 90, 91, 92, 93, 94, 95, 96, 97, 98, 33, 99, 100, 101, 102, 103, 104, 105, 106, 107, 108, 109, 110, 111, 112, 113, 114, 115, 116, 241, 242, 243, 244, 245, 246, 247, 248, 249, 250, 251, 252, 253, 254, 255, 256, 257, 258] (by decide +kernel) (by decide +kernel)
set_option maxRecDepth 20000 in
theorem gX6_carryOut_X2_prepare : GoodIn wsX6_carryOut (wsV RX6 41 RX2 yX2_prepare wsX2_prepare) := goodIn_app (goodIn_of _ (by decide +kernel)) ggX6_carryOut_X2_prepare
set_option maxRecDepth 20000 in
theorem ggX6_carryOut_X6_carryOutOrders : GoodIn wsX6_carryOut wsX6_carryOutOrders := goodIn_r _ [120, 1, 121, 122, 13, 14, 8, 15, 16, 17, 18, 19, 20, 21, 10, 11, 22, 23, 24, 25, 26, 27, 28, 29, 30, 31, 32, 33, 34, 35, 36, 37, 38, 39, 40, 41, 42, 43, 44, 45, 46, 47, 48, 49, 50, 123, 124, 125, 126, 127, 3, 128, 129, 130, 131, 132, 133, 60, 134, 75, 135, 136, 137, 138, 139, 140, 141, 142, 143, 144, 74, 145, 116, 146, 147, 148, 149, 86, 90, 150, 151, 152, 153, 97, 154, 155, 156, 157, 71, 158, 159, 160, 161, 162, 67, 163, 164, 165, 166, 167, 168, 169, 70, 170, 81, 80, 82, 171, 172, 173, 174, 175, 176, 177, 178, 179, 180, 181, 182, 183, 184, 185, 186, 102, 187, 188, 189, 190, 191, 192, 193, 194, 195, 196, 197, 198, 199, 200, 201, 202, 203, 204, 205, 206, 207, 208, 209, 210, 211, 212, 213, 214, 215, 216, 217, 218, 219, 220, 229, 230, 231, 232, 233, 234, 235, 236, 237, 238, 239, 240, 243, 244, 245, 246, 251, 252, 253, 254, 255, 256, 257, 258, 247, 248, 249, 250] (by decide +kernel) (by decide +kernel)
set_option maxRecDepth 20000 in
theorem gX6_carryOut_X6_carryOutOrders : GoodIn wsX6_carryOut (wsV RX6 216 RX6 yX6_carryOutOrders wsX6_carryOutOrders) := goodIn_app (goodIn_of _ (by decide +kernel)) ggX6_carryOut_X6_carryOutOrders
set_option maxRecDepth 20000 in
theorem ggX6_carryOut_X6_recorded : GoodIn wsX6_carryOut wsX6_recorded := goodIn_r _ [224, 2, 225, 226, 227, 54, 228, 57, 56, 229, 230, 231, 232, 233, 241, 242] (by decide +kernel) (by decide +kernel)
set_option maxRecDepth 20000 in
theorem gX6_carryOut_X6_recorded : GoodIn wsX6_carryOut (wsV RX6 49 RX6 yX6_recorded wsX6_recorded) := goodIn_app (goodIn_of _ (by decide +kernel)) ggX6_carryOut_X6_recorded
theorem dX6_carryOut_0 : decode cX6_carryOut 0 = .ok (.aload_n 0, 1) := by decide +kernel
theorem dX6_carryOut_1 : decode cX6_carryOut 1 = .ok (.getfield 26, 3) := by decide +kernel
theorem dX6_carryOut_4 : decode cX6_carryOut 4 = .ok (.invokevirtual 213, 3) := by decide +kernel
theorem dX6_carryOut_7 : decode cX6_carryOut 7 = .ok (.bipush (-6), 2) := by decide +kernel
theorem dX6_carryOut_9 : decode cX6_carryOut 9 = .ok (.if_icmp .eq 6, 3) := by decide +kernel
theorem dX6_carryOut_12 : decode cX6_carryOut 12 = .ok (.bipush (-3), 2) := by decide +kernel
theorem dX6_carryOut_14 : decode cX6_carryOut 14 = .ok (.ireturn, 1) := by decide +kernel
theorem dX6_carryOut_15 : decode cX6_carryOut 15 = .ok (.aload_n 0, 1) := by decide +kernel
theorem dX6_carryOut_16 : decode cX6_carryOut 16 = .ok (.getfield 33, 3) := by decide +kernel
theorem dX6_carryOut_19 : decode cX6_carryOut 19 = .ok (.aload_n 0, 1) := by decide +kernel
theorem dX6_carryOut_20 : decode cX6_carryOut 20 = .ok (.getfield 10, 3) := by decide +kernel
theorem dX6_carryOut_23 : decode cX6_carryOut 23 = .ok (.invokevirtual 41, 3) := by decide +kernel
theorem dX6_carryOut_26 : decode cX6_carryOut 26 = .ok (.aload_n 0, 1) := by decide +kernel
theorem dX6_carryOut_27 : decode cX6_carryOut 27 = .ok (.invokevirtual 216, 3) := by decide +kernel
theorem dX6_carryOut_30 : decode cX6_carryOut 30 = .ok (.istore_n 1, 1) := by decide +kernel
theorem dX6_carryOut_31 : decode cX6_carryOut 31 = .ok (.aload_n 0, 1) := by decide +kernel
theorem dX6_carryOut_32 : decode cX6_carryOut 32 = .ok (.getfield 26, 3) := by decide +kernel
theorem dX6_carryOut_35 : decode cX6_carryOut 35 = .ok (.iconst 0, 1) := by decide +kernel
theorem dX6_carryOut_36 : decode cX6_carryOut 36 = .ok (.putfield 177, 3) := by decide +kernel
theorem dX6_carryOut_39 : decode cX6_carryOut 39 = .ok (.aload_n 0, 1) := by decide +kernel
theorem dX6_carryOut_40 : decode cX6_carryOut 40 = .ok (.iload_n 1, 1) := by decide +kernel
theorem dX6_carryOut_41 : decode cX6_carryOut 41 = .ok (.invokevirtual 49, 3) := by decide +kernel
theorem dX6_carryOut_44 : decode cX6_carryOut 44 = .ok (.ireturn, 1) := by decide +kernel
set_option maxRecDepth 20000 in
theorem ggX6_undo_X2_takeBack : GoodIn wsX6_undo wsX2_takeBack := goodIn_r _ [8, 9, 10, 11, 12, 13, 14, 15, 16, 17, 18, 19, 20, 21, 22, 23, 24, 25, 26, 27, 28, 29, 30, 31, 32, 33, 34, 35, 36, 37, 38, 39, 40, 41, 42, 43, 44, 45, 46, 47, 48, 49, 50, 51, 52, 58, 59, 60, 61, 62, 63, 64, 65, 66, 67, 68, 69, 70, 71, 72, 73, 74, 75] (by decide +kernel) (by decide +kernel)
set_option maxRecDepth 20000 in
theorem gX6_undo_X2_takeBack : GoodIn wsX6_undo (wsV RX6 219 RX2 yX2_takeBack wsX2_takeBack) := goodIn_app (goodIn_of _ (by decide +kernel)) ggX6_undo_X2_takeBack
theorem dX6_undo_0 : decode cX6_undo 0 = .ok (.aload_n 0, 1) := by decide +kernel
theorem dX6_undo_1 : decode cX6_undo 1 = .ok (.getfield 33, 3) := by decide +kernel
theorem dX6_undo_4 : decode cX6_undo 4 = .ok (.aload_n 0, 1) := by decide +kernel
theorem dX6_undo_5 : decode cX6_undo 5 = .ok (.getfield 10, 3) := by decide +kernel
theorem dX6_undo_8 : decode cX6_undo 8 = .ok (.invokevirtual 219, 3) := by decide +kernel
theorem dX6_undo_11 : decode cX6_undo 11 = .ok (.ifCond .eq 13, 3) := by decide +kernel
theorem dX6_undo_14 : decode cX6_undo 14 = .ok (.aload_n 0, 1) := by decide +kernel
theorem dX6_undo_15 : decode cX6_undo 15 = .ok (.getfield 33, 3) := by decide +kernel
theorem dX6_undo_18 : decode cX6_undo 18 = .ok (.getfield 180, 3) := by decide +kernel
theorem dX6_undo_21 : decode cX6_undo 21 = .ok (.goto 5, 3) := by decide +kernel
theorem dX6_undo_24 : decode cX6_undo 24 = .ok (.bipush (-5), 2) := by decide +kernel
theorem dX6_undo_26 : decode cX6_undo 26 = .ok (.ireturn, 1) := by decide +kernel
set_option maxRecDepth 20000 in
theorem ggX6_save_X0_init : GoodIn wsX6_save wsX0_init := goodIn_r _ [9, 10, 11, 12, 13, 14, 15, 16, 17, 18, 19, 20, 21, 22, 23, 24, 25, 26, 27, 28, 29, 30, 31, 32, 33, 34, 35, 36, 37, 38, 39, 70, 71, 72, 73, 82, 83, 84, 85, 74, 75, 76, 77, 78, 79, 80, 81] (by decide +kernel) (by decide +kernel)
set_option maxRecDepth 20000 in
theorem gX6_save_X0_init_n9 : GoodIn wsX6_save (wsX0_init) := ggX6_save_X0_init
set_option maxRecDepth 20000 in
theorem ggX6_save_X0_copyFrom : GoodIn wsX6_save wsX0_copyFrom := goodIn_r _ [43, 14, 44, 18, 22, 45, 46, 47, 48, 49, 50, 51, 52, 53, 54, 55, 56, 57, 58, 17, 59, 26, 27, 28, 29, 60, 61, 62, 21, 63, 64, 33, 34, 35, 36, 37, 38, 39, 70, 71, 72, 73, 82, 83, 84, 85, 74, 75, 76, 77, 78, 79, 80, 81] (by decide +kernel) (by decide +kernel)
set_option maxRecDepth 20000 in
theorem gX6_save_X0_copyFrom : GoodIn wsX6_save (wsV RX6 223 RX0 yX0_copyFrom wsX0_copyFrom) := goodIn_app (goodIn_of _ (by decide +kernel)) ggX6_save_X0_copyFrom
theorem dX6_save_0 : decode cX6_save 0 = .ok (.iload_n 1, 1) := by decide +kernel
theorem dX6_save_1 : decode cX6_save 1 = .ok (.ifCond .lt 8, 3) := by decide +kernel
theorem dX6_save_4 : decode cX6_save 4 = .ok (.iload_n 1, 1) := by decide +kernel
theorem dX6_save_5 : decode cX6_save 5 = .ok (.iconst 2, 1) := by decide +kernel
theorem dX6_save_6 : decode cX6_save 6 = .ok (.if_icmp .lt 6, 3) := by decide +kernel
theorem dX6_save_9 : decode cX6_save 9 = .ok (.bipush (-2), 2) := by decide +kernel
theorem dX6_save_11 : decode cX6_save 11 = .ok (.ireturn, 1) := by decide +kernel
theorem dX6_save_12 : decode cX6_save 12 = .ok (.aload_n 0, 1) := by decide +kernel
theorem dX6_save_13 : decode cX6_save 13 = .ok (.getfield 37, 3) := by decide +kernel
theorem dX6_save_16 : decode cX6_save 16 = .ok (.iload_n 1, 1) := by decide +kernel
theorem dX6_save_17 : decode cX6_save 17 = .ok (.aaload, 1) := by decide +kernel
theorem dX6_save_18 : decode cX6_save 18 = .ok (.astore_n 2, 1) := by decide +kernel
theorem dX6_save_19 : decode cX6_save 19 = .ok (.aload_n 2, 1) := by decide +kernel
theorem dX6_save_20 : decode cX6_save 20 = .ok (.ifnonnull 18, 3) := by decide +kernel
theorem dX6_save_23 : decode cX6_save 23 = .ok (.new 7, 3) := by decide +kernel
theorem dX6_save_26 : decode cX6_save 26 = .ok (.dup, 1) := by decide +kernel
theorem dX6_save_27 : decode cX6_save 27 = .ok (.invokespecial 9, 3) := by decide +kernel
theorem dX6_save_30 : decode cX6_save 30 = .ok (.astore_n 2, 1) := by decide +kernel
theorem dX6_save_31 : decode cX6_save 31 = .ok (.aload_n 0, 1) := by decide +kernel
theorem dX6_save_32 : decode cX6_save 32 = .ok (.getfield 37, 3) := by decide +kernel
theorem dX6_save_35 : decode cX6_save 35 = .ok (.iload_n 1, 1) := by decide +kernel
theorem dX6_save_36 : decode cX6_save 36 = .ok (.aload_n 2, 1) := by decide +kernel
theorem dX6_save_37 : decode cX6_save 37 = .ok (.aastore, 1) := by decide +kernel
theorem dX6_save_38 : decode cX6_save 38 = .ok (.aload_n 2, 1) := by decide +kernel
theorem dX6_save_39 : decode cX6_save 39 = .ok (.aload_n 0, 1) := by decide +kernel
theorem dX6_save_40 : decode cX6_save 40 = .ok (.getfield 10, 3) := by decide +kernel
theorem dX6_save_43 : decode cX6_save 43 = .ok (.invokevirtual 223, 3) := by decide +kernel
theorem dX6_save_46 : decode cX6_save 46 = .ok (.aload_n 0, 1) := by decide +kernel
theorem dX6_save_47 : decode cX6_save 47 = .ok (.getfield 10, 3) := by decide +kernel
theorem dX6_save_50 : decode cX6_save 50 = .ok (.getfield 75, 3) := by decide +kernel
theorem dX6_save_53 : decode cX6_save 53 = .ok (.getfield 161, 3) := by decide +kernel
theorem dX6_save_56 : decode cX6_save 56 = .ok (.ireturn, 1) := by decide +kernel
set_option maxRecDepth 20000 in
theorem ggX6_restore_X2_prepare : GoodIn wsX6_restore wsX2_prepare := goodIn_r _ [10, 11, 12, 13, 14, 15, 16, 17, 18, 19, 20, 21, 22, 23, 24, 25, 26, 27, 28, 29, 30, 31, 32, 33, 34, 35, 36, 37, 38, 39, 40, 41, 42, 43, 44, 45, 46, 47, 48, 49, 50, 51, 52, 53, 54, 55, 56, 57, 58, 59, 60, 61, 62, 63, 64, 65, 66, 67, 68, 69, 70, 71, 72, 99, 100, 87, 88, 89, 90, 101, 102, 103, 104, 91, 92, 93, 94, 95, 96, 97, 98] (by decide +kernel) (by decide +kernel)
set_option maxRecDepth 20000 in
theorem gX6_restore_X2_prepare : GoodIn wsX6_restore (wsV RX6 41 RX2 yX2_prepare wsX2_prepare) := goodIn_app (goodIn_of _ (by decide +kernel)) ggX6_restore_X2_prepare
set_option maxRecDepth 20000 in
theorem ggX6_restore_X0_copyFrom : GoodIn wsX6_restore wsX0_copyFrom := goodIn_r _ [51, 22, 52, 26, 30, 53, 54, 55, 56, 57, 58, 59, 60, 61, 62, 63, 64, 65, 66, 25, 67, 34, 35, 36, 37, 68, 69, 70, 29, 71, 72, 41, 42, 43, 44, 45, 46, 47, 87, 88, 89, 90, 101, 102, 103, 104, 91, 92, 93, 94, 95, 96, 97, 98] (by decide +kernel) (by decide +kernel)
set_option maxRecDepth 20000 in
theorem gX6_restore_X0_copyFrom : GoodIn wsX6_restore (wsV RX6 223 RX0 yX0_copyFrom wsX0_copyFrom) := goodIn_app (goodIn_of _ (by decide +kernel)) ggX6_restore_X0_copyFrom
set_option maxRecDepth 20000 in
theorem ggX6_restore_X6_recorded : GoodIn wsX6_restore wsX6_recorded := goodIn_r _ [77, 2, 78, 79, 80, 9, 81, 12, 11, 82, 83, 84, 85, 86, 99, 100] (by decide +kernel) (by decide +kernel)
set_option maxRecDepth 20000 in
theorem gX6_restore_X6_recorded : GoodIn wsX6_restore (wsV RX6 49 RX6 yX6_recorded wsX6_recorded) := goodIn_app (goodIn_of _ (by decide +kernel)) ggX6_restore_X6_recorded
theorem dX6_restore_0 : decode cX6_restore 0 = .ok (.iload_n 1, 1) := by decide +kernel
theorem dX6_restore_1 : decode cX6_restore 1 = .ok (.ifCond .lt 8, 3) := by decide +kernel
theorem dX6_restore_4 : decode cX6_restore 4 = .ok (.iload_n 1, 1) := by decide +kernel
theorem dX6_restore_5 : decode cX6_restore 5 = .ok (.iconst 2, 1) := by decide +kernel
theorem dX6_restore_6 : decode cX6_restore 6 = .ok (.if_icmp .lt 6, 3) := by decide +kernel
theorem dX6_restore_9 : decode cX6_restore 9 = .ok (.bipush (-2), 2) := by decide +kernel
theorem dX6_restore_11 : decode cX6_restore 11 = .ok (.ireturn, 1) := by decide +kernel
theorem dX6_restore_12 : decode cX6_restore 12 = .ok (.aload_n 0, 1) := by decide +kernel
theorem dX6_restore_13 : decode cX6_restore 13 = .ok (.getfield 37, 3) := by decide +kernel
theorem dX6_restore_16 : decode cX6_restore 16 = .ok (.iload_n 1, 1) := by decide +kernel
theorem dX6_restore_17 : decode cX6_restore 17 = .ok (.aaload, 1) := by decide +kernel
theorem dX6_restore_18 : decode cX6_restore 18 = .ok (.astore_n 2, 1) := by decide +kernel
theorem dX6_restore_19 : decode cX6_restore 19 = .ok (.aload_n 2, 1) := by decide +kernel
theorem dX6_restore_20 : decode cX6_restore 20 = .ok (.ifnonnull 6, 3) := by decide +kernel
theorem dX6_restore_23 : decode cX6_restore 23 = .ok (.bipush (-5), 2) := by decide +kernel
theorem dX6_restore_25 : decode cX6_restore 25 = .ok (.ireturn, 1) := by decide +kernel
theorem dX6_restore_26 : decode cX6_restore 26 = .ok (.aload_n 0, 1) := by decide +kernel
theorem dX6_restore_27 : decode cX6_restore 27 = .ok (.getfield 33, 3) := by decide +kernel
theorem dX6_restore_30 : decode cX6_restore 30 = .ok (.aload_n 0, 1) := by decide +kernel
theorem dX6_restore_31 : decode cX6_restore 31 = .ok (.getfield 10, 3) := by decide +kernel
theorem dX6_restore_34 : decode cX6_restore 34 = .ok (.invokevirtual 41, 3) := by decide +kernel
theorem dX6_restore_37 : decode cX6_restore 37 = .ok (.aload_n 0, 1) := by decide +kernel
theorem dX6_restore_38 : decode cX6_restore 38 = .ok (.getfield 10, 3) := by decide +kernel
theorem dX6_restore_41 : decode cX6_restore 41 = .ok (.aload_n 2, 1) := by decide +kernel
theorem dX6_restore_42 : decode cX6_restore 42 = .ok (.invokevirtual 223, 3) := by decide +kernel
theorem dX6_restore_45 : decode cX6_restore 45 = .ok (.aload_n 0, 1) := by decide +kernel
theorem dX6_restore_46 : decode cX6_restore 46 = .ok (.aload_n 0, 1) := by decide +kernel
theorem dX6_restore_47 : decode cX6_restore 47 = .ok (.getfield 10, 3) := by decide +kernel
theorem dX6_restore_50 : decode cX6_restore 50 = .ok (.getfield 75, 3) := by decide +kernel
theorem dX6_restore_53 : decode cX6_restore 53 = .ok (.getfield 161, 3) := by decide +kernel
theorem dX6_restore_56 : decode cX6_restore 56 = .ok (.invokevirtual 49, 3) := by decide +kernel
theorem dX6_restore_59 : decode cX6_restore 59 = .ok (.ireturn, 1) := by decide +kernel
set_option maxRecDepth 20000 in
theorem ggX6_carryOutOrders_X4_readOrder : GoodIn wsX6_carryOutOrders wsX4_readOrder := goodIn_r _ [7, 8, 9, 10, 11, 12, 6, 13, 14, 15, 16, 17, 18, 19, 20, 21, 22, 23, 24, 25, 26, 27, 28, 29, 30, 31, 32, 33, 34, 35, 36, 37, 38, 39, 40, 41, 42, 43, 44, 163, 164, 165, 166, 167, 168, 169] (by decide +kernel) (by decide +kernel)
set_option maxRecDepth 20000 in
theorem gX6_carryOutOrders_X4_readOrder : GoodIn wsX6_carryOutOrders (wsV RX6 229 RX4 yX4_readOrder wsX4_readOrder) := goodIn_app (goodIn_of _ (by decide +kernel)) ggX6_carryOutOrders_X4_readOrder
set_option maxRecDepth 20000 in
theorem ggX6_carryOutOrders_X6_carryOutOrder : GoodIn wsX6_carryOutOrders wsX6_carryOutOrder := goodIn_r _ [48, 1, 49, 50, 51, 52, 53, 54, 55, 56, 57, 58, 59, 60, 61, 62, 63, 64, 65, 66, 26, 27, 28, 67, 68, 69, 70, 71, 72, 73, 74, 75, 76, 77, 78, 79, 80, 81, 82, 83, 84, 85, 86, 87, 88, 89, 90, 91, 92, 93, 94, 95, 96, 97, 98, 99, 100, 101, 102, 103, 104, 105, 106, 107, 108, 109, 110, 111, 112, 113, 114, 115, 116, 117, 118, 119, 120, 121, 122, 123, 124, 125, 126, 127, 128, 129, 130, 131, 132, 133, 134, 135, 136, 137, 138, 139, 140, 141, 142, 143, 144, 145, 146, 147, 148, 149, 150, 151, 152, 153, 154, 155, 156, 158, 159, 160, 161, 162, 163, 164, 165, 166, 167, 168, 169, 170, 171, 172, 173, 174, 175, 176, 177, 178, 179, 180, 181, 182, 183, 184, 185] (by decide +kernel) (by decide +kernel)
set_option maxRecDepth 20000 in
theorem gX6_carryOutOrders_X6_carryOutOrder : GoodIn wsX6_carryOutOrders (wsV RX6 233 RX6 yX6_carryOutOrder wsX6_carryOutOrder) := goodIn_app (goodIn_of _ (by decide +kernel)) ggX6_carryOutOrders_X6_carryOutOrder
set_option maxRecDepth 20000 in
theorem ggX6_carryOutOrders_X4_take : GoodIn wsX6_carryOutOrders wsX4_take := goodIn_r _ [20, 14, 10, 11, 12, 6, 13, 15, 16, 163, 164, 165, 166, 167, 168, 169] (by decide +kernel) (by decide +kernel)
set_option maxRecDepth 20000 in
theorem gX6_carryOutOrders_X4_take : GoodIn wsX6_carryOutOrders (wsV RX6 236 RX4 yX4_take wsX4_take) := goodIn_app (goodIn_of _ (by decide +kernel)) ggX6_carryOutOrders_X4_take
theorem dX6_carryOutOrders_0 : decode cX6_carryOutOrders 0 = .ok (.aload_n 0, 1) := by decide +kernel
theorem dX6_carryOutOrders_1 : decode cX6_carryOutOrders 1 = .ok (.getfield 26, 3) := by decide +kernel
theorem dX6_carryOutOrders_4 : decode cX6_carryOutOrders 4 = .ok (.iconst 0, 1) := by decide +kernel
theorem dX6_carryOutOrders_5 : decode cX6_carryOutOrders 5 = .ok (.putfield 226, 3) := by decide +kernel
theorem dX6_carryOutOrders_8 : decode cX6_carryOutOrders 8 = .ok (.iconst 0, 1) := by decide +kernel
theorem dX6_carryOutOrders_9 : decode cX6_carryOutOrders 9 = .ok (.istore_n 1, 1) := by decide +kernel
theorem dX6_carryOutOrders_10 : decode cX6_carryOutOrders 10 = .ok (.iload_n 1, 1) := by decide +kernel
theorem dX6_carryOutOrders_11 : decode cX6_carryOutOrders 11 = .ok (.bipush 80, 2) := by decide +kernel
theorem dX6_carryOutOrders_13 : decode cX6_carryOutOrders 13 = .ok (.if_icmp .ge 44, 3) := by decide +kernel
theorem dX6_carryOutOrders_16 : decode cX6_carryOutOrders 16 = .ok (.aload_n 0, 1) := by decide +kernel
theorem dX6_carryOutOrders_17 : decode cX6_carryOutOrders 17 = .ok (.getfield 26, 3) := by decide +kernel
theorem dX6_carryOutOrders_20 : decode cX6_carryOutOrders 20 = .ok (.invokevirtual 229, 3) := by decide +kernel
theorem dX6_carryOutOrders_23 : decode cX6_carryOutOrders 23 = .ok (.ifCond .eq 10, 3) := by decide +kernel
theorem dX6_carryOutOrders_26 : decode cX6_carryOutOrders 26 = .ok (.aload_n 0, 1) := by decide +kernel
theorem dX6_carryOutOrders_27 : decode cX6_carryOutOrders 27 = .ok (.invokevirtual 233, 3) := by decide +kernel
theorem dX6_carryOutOrders_30 : decode cX6_carryOutOrders 30 = .ok (.ifCond .ge 5, 3) := by decide +kernel
theorem dX6_carryOutOrders_33 : decode cX6_carryOutOrders 33 = .ok (.iload_n 1, 1) := by decide +kernel
theorem dX6_carryOutOrders_34 : decode cX6_carryOutOrders 34 = .ok (.ireturn, 1) := by decide +kernel
theorem dX6_carryOutOrders_35 : decode cX6_carryOutOrders 35 = .ok (.aload_n 0, 1) := by decide +kernel
theorem dX6_carryOutOrders_36 : decode cX6_carryOutOrders 36 = .ok (.getfield 26, 3) := by decide +kernel
theorem dX6_carryOutOrders_39 : decode cX6_carryOutOrders 39 = .ok (.bipush 59, 2) := by decide +kernel
theorem dX6_carryOutOrders_41 : decode cX6_carryOutOrders 41 = .ok (.invokevirtual 236, 3) := by decide +kernel
theorem dX6_carryOutOrders_44 : decode cX6_carryOutOrders 44 = .ok (.ifCond .ne 7, 3) := by decide +kernel
theorem dX6_carryOutOrders_47 : decode cX6_carryOutOrders 47 = .ok (.iload_n 1, 1) := by decide +kernel
theorem dX6_carryOutOrders_48 : decode cX6_carryOutOrders 48 = .ok (.iconst 1, 1) := by decide +kernel
theorem dX6_carryOutOrders_49 : decode cX6_carryOutOrders 49 = .ok (.iadd, 1) := by decide +kernel
theorem dX6_carryOutOrders_50 : decode cX6_carryOutOrders 50 = .ok (.ireturn, 1) := by decide +kernel
theorem dX6_carryOutOrders_51 : decode cX6_carryOutOrders 51 = .ok (.iinc 1 1, 3) := by decide +kernel
theorem dX6_carryOutOrders_54 : decode cX6_carryOutOrders 54 = .ok (.goto (-44), 3) := by decide +kernel
theorem dX6_carryOutOrders_57 : decode cX6_carryOutOrders 57 = .ok (.bipush 80, 2) := by decide +kernel
theorem dX6_carryOutOrders_59 : decode cX6_carryOutOrders 59 = .ok (.ireturn, 1) := by decide +kernel
set_option maxRecDepth 20000 in
theorem ggX6_carryOutOrder_X0_writeLetter : GoodIn wsX6_carryOutOrder wsX0_writeLetter := goodIn_r _ [11, 12, 13, 14, 15, 16, 17, 18, 19, 20, 21, 22, 23, 24, 25, 26, 27, 28, 29, 30, 31, 32, 33, 34, 35, 36, 37, 10, 38, 39, 125, 126, 127, 128, 129, 130, 131, 132, 133, 134, 135, 136] (by decide +kernel) (by decide +kernel)
set_option maxRecDepth 20000 in
theorem gX6_carryOutOrder_X0_writeLetter : GoodIn wsX6_carryOutOrder (wsV RX6 53 RX0 yX0_writeLetter wsX0_writeLetter) := goodIn_app (goodIn_of _ (by decide +kernel)) ggX6_carryOutOrder_X0_writeLetter
set_option maxRecDepth 20000 in
theorem ggX6_carryOutOrder_X0_turnKey : GoodIn wsX6_carryOutOrder wsX0_turnKey := goodIn_r _ [43, 44, 45, 20, 21, 22, 125, 126, 127, 128, 137, 138, 139, 140] (by decide +kernel) (by decide +kernel)
set_option maxRecDepth 20000 in
theorem gX6_carryOutOrder_X0_turnKey : GoodIn wsX6_carryOutOrder (wsV RX6 57 RX0 yX0_turnKey wsX0_turnKey) := goodIn_app (goodIn_of _ (by decide +kernel)) ggX6_carryOutOrder_X0_turnKey
set_option maxRecDepth 20000 in
theorem ggX6_carryOutOrder_X0_passHours : GoodIn wsX6_carryOutOrder wsX0_passHours := goodIn_r _ [49, 39, 44, 50, 51, 52, 53, 10, 54, 55, 56, 57, 58, 59, 60, 61, 62, 63, 64, 65, 66, 12, 13, 45, 67, 68, 69, 26, 70, 33, 34, 35, 36, 37, 38, 71, 72, 73, 74, 16, 75, 17, 76, 77, 78, 79, 80, 81, 82, 83, 84, 85, 19, 14, 86, 87, 88, 89, 90, 91, 92, 93, 94, 95, 96, 125, 126, 127, 128, 137, 138, 139, 140, 129, 130, 131, 132, 133, 134, 135, 136] (by decide +kernel) (by decide +kernel)
set_option maxRecDepth 20000 in
theorem gX6_carryOutOrder_X0_passHours : GoodIn wsX6_carryOutOrder (wsV RX6 69 RX0 yX0_passHours wsX0_passHours) := goodIn_app (goodIn_of _ (by decide +kernel)) ggX6_carryOutOrder_X0_passHours
set_option maxRecDepth 20000 in
theorem ggX6_carryOutOrder_X0_burnLetter : GoodIn wsX6_carryOutOrder wsX0_burnLetter := goodIn_r _ [100, 12, 14, 15, 23, 24, 25, 26, 27, 28, 101, 102, 103, 10, 104, 44, 45, 20, 21, 22, 86, 87, 88, 89, 85, 17, 16, 50, 77, 78, 79, 80, 35, 36, 37, 38, 39, 125, 126, 127, 128, 129, 130, 131, 132, 133, 134, 135, 136, 137, 138, 139, 140] (by decide +kernel) (by decide +kernel)
set_option maxRecDepth 20000 in
theorem gX6_carryOutOrder_X0_burnLetter : GoodIn wsX6_carryOutOrder (wsV RX6 66 RX0 yX0_burnLetter wsX0_burnLetter) := goodIn_app (goodIn_of _ (by decide +kernel)) ggX6_carryOutOrder_X0_burnLetter
set_option maxRecDepth 20000 in
theorem ggX6_carryOutOrder_X0_changeHours : GoodIn wsX6_carryOutOrder wsX0_changeHours := goodIn_r _ [108, 44, 109, 110, 20, 21, 22, 111, 112, 125, 126, 127, 128, 137, 138, 139, 140] (by decide +kernel) (by decide +kernel)
set_option maxRecDepth 20000 in
theorem gX6_carryOutOrder_X0_changeHours : GoodIn wsX6_carryOutOrder (wsV RX6 63 RX0 yX0_changeHours wsX0_changeHours) := goodIn_app (goodIn_of _ (by decide +kernel)) ggX6_carryOutOrder_X0_changeHours
theorem dX6_carryOutOrder_0 : decode cX6_carryOutOrder 0 = .ok (.aload_n 0, 1) := by decide +kernel
theorem dX6_carryOutOrder_1 : decode cX6_carryOutOrder 1 = .ok (.getfield 26, 3) := by decide +kernel
theorem dX6_carryOutOrder_4 : decode cX6_carryOutOrder 4 = .ok (.getfield 240, 3) := by decide +kernel
theorem dX6_carryOutOrder_7 : decode cX6_carryOutOrder 7 = .ok (.lookupswitch 115 #[(43, 41), (98, 100), (107, 70), (116, 85)], 41) := by decide +kernel
theorem dX6_carryOutOrder_48 : decode cX6_carryOutOrder 48 = .ok (.aload_n 0, 1) := by decide +kernel
theorem dX6_carryOutOrder_49 : decode cX6_carryOutOrder 49 = .ok (.getfield 10, 3) := by decide +kernel
theorem dX6_carryOutOrder_52 : decode cX6_carryOutOrder 52 = .ok (.aload_n 0, 1) := by decide +kernel
theorem dX6_carryOutOrder_53 : decode cX6_carryOutOrder 53 = .ok (.getfield 26, 3) := by decide +kernel
theorem dX6_carryOutOrder_56 : decode cX6_carryOutOrder 56 = .ok (.getfield 243, 3) := by decide +kernel
theorem dX6_carryOutOrder_59 : decode cX6_carryOutOrder 59 = .ok (.aload_n 0, 1) := by decide +kernel
theorem dX6_carryOutOrder_60 : decode cX6_carryOutOrder 60 = .ok (.getfield 26, 3) := by decide +kernel
theorem dX6_carryOutOrder_63 : decode cX6_carryOutOrder 63 = .ok (.getfield 245, 3) := by decide +kernel
theorem dX6_carryOutOrder_66 : decode cX6_carryOutOrder 66 = .ok (.aload_n 0, 1) := by decide +kernel
theorem dX6_carryOutOrder_67 : decode cX6_carryOutOrder 67 = .ok (.getfield 26, 3) := by decide +kernel
theorem dX6_carryOutOrder_70 : decode cX6_carryOutOrder 70 = .ok (.getfield 248, 3) := by decide +kernel
theorem dX6_carryOutOrder_73 : decode cX6_carryOutOrder 73 = .ok (.invokevirtual 53, 3) := by decide +kernel
theorem dX6_carryOutOrder_76 : decode cX6_carryOutOrder 76 = .ok (.ireturn, 1) := by decide +kernel
theorem dX6_carryOutOrder_77 : decode cX6_carryOutOrder 77 = .ok (.aload_n 0, 1) := by decide +kernel
theorem dX6_carryOutOrder_78 : decode cX6_carryOutOrder 78 = .ok (.getfield 10, 3) := by decide +kernel
theorem dX6_carryOutOrder_81 : decode cX6_carryOutOrder 81 = .ok (.aload_n 0, 1) := by decide +kernel
theorem dX6_carryOutOrder_82 : decode cX6_carryOutOrder 82 = .ok (.getfield 26, 3) := by decide +kernel
theorem dX6_carryOutOrder_85 : decode cX6_carryOutOrder 85 = .ok (.getfield 243, 3) := by decide +kernel
theorem dX6_carryOutOrder_88 : decode cX6_carryOutOrder 88 = .ok (.invokevirtual 57, 3) := by decide +kernel
theorem dX6_carryOutOrder_91 : decode cX6_carryOutOrder 91 = .ok (.ireturn, 1) := by decide +kernel
theorem dX6_carryOutOrder_92 : decode cX6_carryOutOrder 92 = .ok (.aload_n 0, 1) := by decide +kernel
theorem dX6_carryOutOrder_93 : decode cX6_carryOutOrder 93 = .ok (.getfield 10, 3) := by decide +kernel
theorem dX6_carryOutOrder_96 : decode cX6_carryOutOrder 96 = .ok (.aload_n 0, 1) := by decide +kernel
theorem dX6_carryOutOrder_97 : decode cX6_carryOutOrder 97 = .ok (.getfield 26, 3) := by decide +kernel
theorem dX6_carryOutOrder_100 : decode cX6_carryOutOrder 100 = .ok (.getfield 245, 3) := by decide +kernel
theorem dX6_carryOutOrder_103 : decode cX6_carryOutOrder 103 = .ok (.invokevirtual 69, 3) := by decide +kernel
theorem dX6_carryOutOrder_106 : decode cX6_carryOutOrder 106 = .ok (.ireturn, 1) := by decide +kernel
theorem dX6_carryOutOrder_107 : decode cX6_carryOutOrder 107 = .ok (.aload_n 0, 1) := by decide +kernel
theorem dX6_carryOutOrder_108 : decode cX6_carryOutOrder 108 = .ok (.getfield 10, 3) := by decide +kernel
theorem dX6_carryOutOrder_111 : decode cX6_carryOutOrder 111 = .ok (.aload_n 0, 1) := by decide +kernel
theorem dX6_carryOutOrder_112 : decode cX6_carryOutOrder 112 = .ok (.getfield 26, 3) := by decide +kernel
theorem dX6_carryOutOrder_115 : decode cX6_carryOutOrder 115 = .ok (.getfield 245, 3) := by decide +kernel
theorem dX6_carryOutOrder_118 : decode cX6_carryOutOrder 118 = .ok (.invokevirtual 66, 3) := by decide +kernel
theorem dX6_carryOutOrder_121 : decode cX6_carryOutOrder 121 = .ok (.ireturn, 1) := by decide +kernel
theorem dX6_carryOutOrder_122 : decode cX6_carryOutOrder 122 = .ok (.aload_n 0, 1) := by decide +kernel
theorem dX6_carryOutOrder_123 : decode cX6_carryOutOrder 123 = .ok (.getfield 10, 3) := by decide +kernel
theorem dX6_carryOutOrder_126 : decode cX6_carryOutOrder 126 = .ok (.aload_n 0, 1) := by decide +kernel
theorem dX6_carryOutOrder_127 : decode cX6_carryOutOrder 127 = .ok (.getfield 26, 3) := by decide +kernel
theorem dX6_carryOutOrder_130 : decode cX6_carryOutOrder 130 = .ok (.getfield 243, 3) := by decide +kernel
theorem dX6_carryOutOrder_133 : decode cX6_carryOutOrder 133 = .ok (.aload_n 0, 1) := by decide +kernel
theorem dX6_carryOutOrder_134 : decode cX6_carryOutOrder 134 = .ok (.getfield 26, 3) := by decide +kernel
theorem dX6_carryOutOrder_137 : decode cX6_carryOutOrder 137 = .ok (.getfield 245, 3) := by decide +kernel
theorem dX6_carryOutOrder_140 : decode cX6_carryOutOrder 140 = .ok (.aload_n 0, 1) := by decide +kernel
theorem dX6_carryOutOrder_141 : decode cX6_carryOutOrder 141 = .ok (.getfield 26, 3) := by decide +kernel
theorem dX6_carryOutOrder_144 : decode cX6_carryOutOrder 144 = .ok (.getfield 248, 3) := by decide +kernel
theorem dX6_carryOutOrder_147 : decode cX6_carryOutOrder 147 = .ok (.invokevirtual 63, 3) := by decide +kernel
theorem dX6_carryOutOrder_150 : decode cX6_carryOutOrder 150 = .ok (.ireturn, 1) := by decide +kernel
theorem dX6_isMood_0 : decode cX6_isMood 0 = .ok (.iload_n 0, 1) := by decide +kernel
theorem dX6_isMood_1 : decode cX6_isMood 1 = .ok (.ifCond .lt 13, 3) := by decide +kernel
theorem dX6_isMood_4 : decode cX6_isMood 4 = .ok (.iload_n 0, 1) := by decide +kernel
theorem dX6_isMood_5 : decode cX6_isMood 5 = .ok (.bipush 6, 2) := by decide +kernel
theorem dX6_isMood_7 : decode cX6_isMood 7 = .ok (.if_icmp .ge 7, 3) := by decide +kernel
theorem dX6_isMood_10 : decode cX6_isMood 10 = .ok (.iconst 1, 1) := by decide +kernel
theorem dX6_isMood_11 : decode cX6_isMood 11 = .ok (.goto 4, 3) := by decide +kernel
theorem dX6_isMood_14 : decode cX6_isMood 14 = .ok (.iconst 0, 1) := by decide +kernel
theorem dX6_isMood_15 : decode cX6_isMood 15 = .ok (.ireturn, 1) := by decide +kernel
theorem dX6_isHour_0 : decode cX6_isHour 0 = .ok (.iload_n 0, 1) := by decide +kernel
theorem dX6_isHour_1 : decode cX6_isHour 1 = .ok (.ifCond .lt 13, 3) := by decide +kernel
theorem dX6_isHour_4 : decode cX6_isHour 4 = .ok (.iload_n 0, 1) := by decide +kernel
theorem dX6_isHour_5 : decode cX6_isHour 5 = .ok (.bipush 24, 2) := by decide +kernel
theorem dX6_isHour_7 : decode cX6_isHour 7 = .ok (.if_icmp .ge 7, 3) := by decide +kernel
theorem dX6_isHour_10 : decode cX6_isHour 10 = .ok (.iconst 1, 1) := by decide +kernel
theorem dX6_isHour_11 : decode cX6_isHour 11 = .ok (.goto 4, 3) := by decide +kernel
theorem dX6_isHour_14 : decode cX6_isHour 14 = .ok (.iconst 0, 1) := by decide +kernel
theorem dX6_isHour_15 : decode cX6_isHour 15 = .ok (.ireturn, 1) := by decide +kernel
theorem dX6_copy_0 : decode cX6_copy 0 = .ok (.aload_n 0, 1) := by decide +kernel
theorem dX6_copy_1 : decode cX6_copy 1 = .ok (.iconst 0, 1) := by decide +kernel
theorem dX6_copy_2 : decode cX6_copy 2 = .ok (.aload_n 1, 1) := by decide +kernel
theorem dX6_copy_3 : decode cX6_copy 3 = .ok (.iconst 0, 1) := by decide +kernel
theorem dX6_copy_4 : decode cX6_copy 4 = .ok (.aload_n 0, 1) := by decide +kernel
theorem dX6_copy_5 : decode cX6_copy 5 = .ok (.arraylength, 1) := by decide +kernel
theorem dX6_copy_6 : decode cX6_copy 6 = .ok (.aload_n 1, 1) := by decide +kernel
theorem dX6_copy_7 : decode cX6_copy 7 = .ok (.arraylength, 1) := by decide +kernel
theorem dX6_copy_8 : decode cX6_copy 8 = .ok (.invokestatic 251, 3) := by decide +kernel
theorem dX6_copy_11 : decode cX6_copy 11 = .ok (.invokestatic 256, 3) := by decide +kernel
theorem dX6_copy_14 : decode cX6_copy 14 = .ok (.return_, 1) := by decide +kernel
theorem dX6_charactersIn_0 : decode cX6_charactersIn 0 = .ok (.iconst 0, 1) := by decide +kernel
theorem dX6_charactersIn_1 : decode cX6_charactersIn 1 = .ok (.istore_n 2, 1) := by decide +kernel
theorem dX6_charactersIn_2 : decode cX6_charactersIn 2 = .ok (.lload_n 0, 1) := by decide +kernel
theorem dX6_charactersIn_3 : decode cX6_charactersIn 3 = .ok (.lstore_n 3, 1) := by decide +kernel
theorem dX6_charactersIn_4 : decode cX6_charactersIn 4 = .ok (.lload_n 3, 1) := by decide +kernel
theorem dX6_charactersIn_5 : decode cX6_charactersIn 5 = .ok (.lconst 0, 1) := by decide +kernel
theorem dX6_charactersIn_6 : decode cX6_charactersIn 6 = .ok (.lcmp, 1) := by decide +kernel
theorem dX6_charactersIn_7 : decode cX6_charactersIn 7 = .ok (.ifCond .eq 47, 3) := by decide +kernel
theorem dX6_charactersIn_10 : decode cX6_charactersIn 10 = .ok (.iload_n 2, 1) := by decide +kernel
theorem dX6_charactersIn_11 : decode cX6_charactersIn 11 = .ok (.bipush 8, 2) := by decide +kernel
theorem dX6_charactersIn_13 : decode cX6_charactersIn 13 = .ok (.if_icmp .ge 41, 3) := by decide +kernel
theorem dX6_charactersIn_16 : decode cX6_charactersIn 16 = .ok (.lload_n 3, 1) := by decide +kernel
theorem dX6_charactersIn_17 : decode cX6_charactersIn 17 = .ok (.ldc2_w 207, 3) := by decide +kernel
theorem dX6_charactersIn_20 : decode cX6_charactersIn 20 = .ok (.land, 1) := by decide +kernel
theorem dX6_charactersIn_21 : decode cX6_charactersIn 21 = .ok (.lstore 5, 2) := by decide +kernel
theorem dX6_charactersIn_23 : decode cX6_charactersIn 23 = .ok (.lload 5, 2) := by decide +kernel
theorem dX6_charactersIn_25 : decode cX6_charactersIn 25 = .ok (.ldc2_w 262, 3) := by decide +kernel
theorem dX6_charactersIn_28 : decode cX6_charactersIn 28 = .ok (.lcmp, 1) := by decide +kernel
theorem dX6_charactersIn_29 : decode cX6_charactersIn 29 = .ok (.ifCond .lt 12, 3) := by decide +kernel
theorem dX6_charactersIn_32 : decode cX6_charactersIn 32 = .ok (.lload 5, 2) := by decide +kernel
theorem dX6_charactersIn_34 : decode cX6_charactersIn 34 = .ok (.ldc2_w 264, 3) := by decide +kernel
theorem dX6_charactersIn_37 : decode cX6_charactersIn 37 = .ok (.lcmp, 1) := by decide +kernel
theorem dX6_charactersIn_38 : decode cX6_charactersIn 38 = .ok (.ifCond .le 5, 3) := by decide +kernel
theorem dX6_charactersIn_41 : decode cX6_charactersIn 41 = .ok (.iconst 0, 1) := by decide +kernel
theorem dX6_charactersIn_42 : decode cX6_charactersIn 42 = .ok (.ireturn, 1) := by decide +kernel
theorem dX6_charactersIn_43 : decode cX6_charactersIn 43 = .ok (.iinc 2 1, 3) := by decide +kernel
theorem dX6_charactersIn_46 : decode cX6_charactersIn 46 = .ok (.lload_n 3, 1) := by decide +kernel
theorem dX6_charactersIn_47 : decode cX6_charactersIn 47 = .ok (.bipush 8, 2) := by decide +kernel
theorem dX6_charactersIn_49 : decode cX6_charactersIn 49 = .ok (.lushr, 1) := by decide +kernel
theorem dX6_charactersIn_50 : decode cX6_charactersIn 50 = .ok (.lstore_n 3, 1) := by decide +kernel
theorem dX6_charactersIn_51 : decode cX6_charactersIn 51 = .ok (.goto (-47), 3) := by decide +kernel
theorem dX6_charactersIn_54 : decode cX6_charactersIn 54 = .ok (.iload_n 2, 1) := by decide +kernel
theorem dX6_charactersIn_55 : decode cX6_charactersIn 55 = .ok (.ireturn, 1) := by decide +kernel
theorem dX6_bitsOf_0 : decode cX6_bitsOf 0 = .ok (.dload_n 0, 1) := by decide +kernel
theorem dX6_bitsOf_1 : decode cX6_bitsOf 1 = .ok (.dconst 0, 1) := by decide +kernel
theorem dX6_bitsOf_2 : decode cX6_bitsOf 2 = .ok (.dcmp .g, 1) := by decide +kernel
theorem dX6_bitsOf_3 : decode cX6_bitsOf 3 = .ok (.ifCond .gt 5, 3) := by decide +kernel
theorem dX6_bitsOf_6 : decode cX6_bitsOf 6 = .ok (.lconst 0, 1) := by decide +kernel
theorem dX6_bitsOf_7 : decode cX6_bitsOf 7 = .ok (.lreturn, 1) := by decide +kernel
theorem dX6_bitsOf_8 : decode cX6_bitsOf 8 = .ok (.iconst 0, 1) := by decide +kernel
theorem dX6_bitsOf_9 : decode cX6_bitsOf 9 = .ok (.istore 4, 2) := by decide +kernel
theorem dX6_bitsOf_11 : decode cX6_bitsOf 11 = .ok (.dload_n 0, 1) := by decide +kernel
theorem dX6_bitsOf_12 : decode cX6_bitsOf 12 = .ok (.dstore 5, 2) := by decide +kernel
theorem dX6_bitsOf_14 : decode cX6_bitsOf 14 = .ok (.dload 5, 2) := by decide +kernel
theorem dX6_bitsOf_16 : decode cX6_bitsOf 16 = .ok (.ldc2_w 266, 3) := by decide +kernel
theorem dX6_bitsOf_19 : decode cX6_bitsOf 19 = .ok (.dcmp .l, 1) := by decide +kernel
theorem dX6_bitsOf_20 : decode cX6_bitsOf 20 = .ok (.ifCond .lt 23, 3) := by decide +kernel
theorem dX6_bitsOf_23 : decode cX6_bitsOf 23 = .ok (.iload 4, 2) := by decide +kernel
theorem dX6_bitsOf_25 : decode cX6_bitsOf 25 = .ok (.iload_n 2, 1) := by decide +kernel
theorem dX6_bitsOf_26 : decode cX6_bitsOf 26 = .ok (.if_icmp .ge 17, 3) := by decide +kernel
theorem dX6_bitsOf_29 : decode cX6_bitsOf 29 = .ok (.dload 5, 2) := by decide +kernel
theorem dX6_bitsOf_31 : decode cX6_bitsOf 31 = .ok (.ldc2_w 266, 3) := by decide +kernel
theorem dX6_bitsOf_34 : decode cX6_bitsOf 34 = .ok (.ddiv, 1) := by decide +kernel
theorem dX6_bitsOf_35 : decode cX6_bitsOf 35 = .ok (.dstore 5, 2) := by decide +kernel
theorem dX6_bitsOf_37 : decode cX6_bitsOf 37 = .ok (.iinc 4 1, 3) := by decide +kernel
theorem dX6_bitsOf_40 : decode cX6_bitsOf 40 = .ok (.goto (-26), 3) := by decide +kernel
theorem dX6_bitsOf_43 : decode cX6_bitsOf 43 = .ok (.dload 5, 2) := by decide +kernel
theorem dX6_bitsOf_45 : decode cX6_bitsOf 45 = .ok (.dconst 1, 1) := by decide +kernel
theorem dX6_bitsOf_46 : decode cX6_bitsOf 46 = .ok (.dcmp .g, 1) := by decide +kernel
theorem dX6_bitsOf_47 : decode cX6_bitsOf 47 = .ok (.ifCond .ge 25, 3) := by decide +kernel
theorem dX6_bitsOf_50 : decode cX6_bitsOf 50 = .ok (.iload 4, 2) := by decide +kernel
theorem dX6_bitsOf_52 : decode cX6_bitsOf 52 = .ok (.iconst 1, 1) := by decide +kernel
theorem dX6_bitsOf_53 : decode cX6_bitsOf 53 = .ok (.iload_n 2, 1) := by decide +kernel
theorem dX6_bitsOf_54 : decode cX6_bitsOf 54 = .ok (.isub, 1) := by decide +kernel
theorem dX6_bitsOf_55 : decode cX6_bitsOf 55 = .ok (.if_icmp .le 17, 3) := by decide +kernel
theorem dX6_bitsOf_58 : decode cX6_bitsOf 58 = .ok (.dload 5, 2) := by decide +kernel
theorem dX6_bitsOf_60 : decode cX6_bitsOf 60 = .ok (.ldc2_w 266, 3) := by decide +kernel
theorem dX6_bitsOf_63 : decode cX6_bitsOf 63 = .ok (.dmul, 1) := by decide +kernel
theorem dX6_bitsOf_64 : decode cX6_bitsOf 64 = .ok (.dstore 5, 2) := by decide +kernel
theorem dX6_bitsOf_66 : decode cX6_bitsOf 66 = .ok (.iinc 4 (-1), 3) := by decide +kernel
theorem dX6_bitsOf_69 : decode cX6_bitsOf 69 = .ok (.goto (-26), 3) := by decide +kernel
theorem dX6_bitsOf_72 : decode cX6_bitsOf 72 = .ok (.dload 5, 2) := by decide +kernel
theorem dX6_bitsOf_74 : decode cX6_bitsOf 74 = .ok (.dconst 1, 1) := by decide +kernel
theorem dX6_bitsOf_75 : decode cX6_bitsOf 75 = .ok (.dsub, 1) := by decide +kernel
theorem dX6_bitsOf_76 : decode cX6_bitsOf 76 = .ok (.lconst 1, 1) := by decide +kernel
theorem dX6_bitsOf_77 : decode cX6_bitsOf 77 = .ok (.iload_n 3, 1) := by decide +kernel
theorem dX6_bitsOf_78 : decode cX6_bitsOf 78 = .ok (.lshl, 1) := by decide +kernel
theorem dX6_bitsOf_79 : decode cX6_bitsOf 79 = .ok (.l2d, 1) := by decide +kernel
theorem dX6_bitsOf_80 : decode cX6_bitsOf 80 = .ok (.dmul, 1) := by decide +kernel
theorem dX6_bitsOf_81 : decode cX6_bitsOf 81 = .ok (.d2l, 1) := by decide +kernel
theorem dX6_bitsOf_82 : decode cX6_bitsOf 82 = .ok (.lstore 7, 2) := by decide +kernel
theorem dX6_bitsOf_84 : decode cX6_bitsOf 84 = .ok (.iload 4, 2) := by decide +kernel
theorem dX6_bitsOf_86 : decode cX6_bitsOf 86 = .ok (.iload_n 2, 1) := by decide +kernel
theorem dX6_bitsOf_87 : decode cX6_bitsOf 87 = .ok (.iadd, 1) := by decide +kernel
theorem dX6_bitsOf_88 : decode cX6_bitsOf 88 = .ok (.i2l, 1) := by decide +kernel
theorem dX6_bitsOf_89 : decode cX6_bitsOf 89 = .ok (.iload_n 3, 1) := by decide +kernel
theorem dX6_bitsOf_90 : decode cX6_bitsOf 90 = .ok (.lshl, 1) := by decide +kernel
theorem dX6_bitsOf_91 : decode cX6_bitsOf 91 = .ok (.lload 7, 2) := by decide +kernel
theorem dX6_bitsOf_93 : decode cX6_bitsOf 93 = .ok (.ladd, 1) := by decide +kernel
theorem dX6_bitsOf_94 : decode cX6_bitsOf 94 = .ok (.lreturn, 1) := by decide +kernel
set_option maxRecDepth 20000 in
theorem ggX7_init_X7_ofD : GoodIn wsX7_init wsX7_ofD := goodIn_r _ [17] (by decide +kernel) (by decide +kernel)
set_option maxRecDepth 20000 in
theorem gX7_init_X7_ofD : GoodIn wsX7_init (va_wsS RX7 35 yX7_ofD wsX7_ofD) := goodIn_app (goodIn_of _ (by decide +kernel)) ggX7_init_X7_ofD
theorem dX7_init_0 : decode cX7_init 0 = .ok (.aload_n 0, 1) := by decide +kernel
theorem dX7_init_1 : decode cX7_init 1 = .ok (.invokespecial 1, 3) := by decide +kernel
theorem dX7_init_4 : decode cX7_init 4 = .ok (.aload_n 0, 1) := by decide +kernel
theorem dX7_init_5 : decode cX7_init 5 = .ok (.sipush 240, 3) := by decide +kernel
theorem dX7_init_8 : decode cX7_init 8 = .ok (.newarray .int, 2) := by decide +kernel
theorem dX7_init_10 : decode cX7_init 10 = .ok (.putfield 7, 3) := by decide +kernel
theorem dX7_init_13 : decode cX7_init 13 = .ok (.aload_n 0, 1) := by decide +kernel
theorem dX7_init_14 : decode cX7_init 14 = .ok (.sipush 240, 3) := by decide +kernel
theorem dX7_init_17 : decode cX7_init 17 = .ok (.newarray .int, 2) := by decide +kernel
theorem dX7_init_19 : decode cX7_init 19 = .ok (.putfield 13, 3) := by decide +kernel
theorem dX7_init_22 : decode cX7_init 22 = .ok (.aload_n 0, 1) := by decide +kernel
theorem dX7_init_23 : decode cX7_init 23 = .ok (.sipush 1440, 3) := by decide +kernel
theorem dX7_init_26 : decode cX7_init 26 = .ok (.newarray .int, 2) := by decide +kernel
theorem dX7_init_28 : decode cX7_init 28 = .ok (.putfield 16, 3) := by decide +kernel
theorem dX7_init_31 : decode cX7_init 31 = .ok (.aload_n 0, 1) := by decide +kernel
theorem dX7_init_32 : decode cX7_init 32 = .ok (.sipush 480, 3) := by decide +kernel
theorem dX7_init_35 : decode cX7_init 35 = .ok (.newarray .int, 2) := by decide +kernel
theorem dX7_init_37 : decode cX7_init 37 = .ok (.putfield 19, 3) := by decide +kernel
theorem dX7_init_40 : decode cX7_init 40 = .ok (.aload_n 0, 1) := by decide +kernel
theorem dX7_init_41 : decode cX7_init 41 = .ok (.iconst 2, 1) := by decide +kernel
theorem dX7_init_42 : decode cX7_init 42 = .ok (.newarray .boolean, 2) := by decide +kernel
theorem dX7_init_44 : decode cX7_init 44 = .ok (.putfield 22, 3) := by decide +kernel
theorem dX7_init_47 : decode cX7_init 47 = .ok (.aload_n 0, 1) := by decide +kernel
theorem dX7_init_48 : decode cX7_init 48 = .ok (.bipush 80, 2) := by decide +kernel
theorem dX7_init_50 : decode cX7_init 50 = .ok (.newarray .int, 2) := by decide +kernel
theorem dX7_init_52 : decode cX7_init 52 = .ok (.putfield 26, 3) := by decide +kernel
theorem dX7_init_55 : decode cX7_init 55 = .ok (.aload_n 0, 1) := by decide +kernel
theorem dX7_init_56 : decode cX7_init 56 = .ok (.bipush 30, 2) := by decide +kernel
theorem dX7_init_58 : decode cX7_init 58 = .ok (.newarray .int, 2) := by decide +kernel
theorem dX7_init_60 : decode cX7_init 60 = .ok (.putfield 29, 3) := by decide +kernel
theorem dX7_init_63 : decode cX7_init 63 = .ok (.aload_n 0, 1) := by decide +kernel
theorem dX7_init_64 : decode cX7_init 64 = .ok (.bipush 30, 2) := by decide +kernel
theorem dX7_init_66 : decode cX7_init 66 = .ok (.newarray .int, 2) := by decide +kernel
theorem dX7_init_68 : decode cX7_init 68 = .ok (.putfield 32, 3) := by decide +kernel
theorem dX7_init_71 : decode cX7_init 71 = .ok (.aload_n 0, 1) := by decide +kernel
theorem dX7_init_72 : decode cX7_init 72 = .ok (.getfield 7, 3) := by decide +kernel
theorem dX7_init_75 : decode cX7_init 75 = .ok (.iconst 0, 1) := by decide +kernel
theorem dX7_init_76 : decode cX7_init 76 = .ok (.bipush 17, 2) := by decide +kernel
theorem dX7_init_78 : decode cX7_init 78 = .ok (.iastore, 1) := by decide +kernel
theorem dX7_init_79 : decode cX7_init 79 = .ok (.aload_n 0, 1) := by decide +kernel
theorem dX7_init_80 : decode cX7_init 80 = .ok (.getfield 7, 3) := by decide +kernel
theorem dX7_init_83 : decode cX7_init 83 = .ok (.iconst 1, 1) := by decide +kernel
theorem dX7_init_84 : decode cX7_init 84 = .ok (.bipush 30, 2) := by decide +kernel
theorem dX7_init_86 : decode cX7_init 86 = .ok (.iastore, 1) := by decide +kernel
theorem dX7_init_87 : decode cX7_init 87 = .ok (.aload_n 0, 1) := by decide +kernel
theorem dX7_init_88 : decode cX7_init 88 = .ok (.getfield 7, 3) := by decide +kernel
theorem dX7_init_91 : decode cX7_init 91 = .ok (.iconst 2, 1) := by decide +kernel
theorem dX7_init_92 : decode cX7_init 92 = .ok (.iconst 5, 1) := by decide +kernel
theorem dX7_init_93 : decode cX7_init 93 = .ok (.iastore, 1) := by decide +kernel
theorem dX7_init_94 : decode cX7_init 94 = .ok (.iconst 0, 1) := by decide +kernel
theorem dX7_init_95 : decode cX7_init 95 = .ok (.istore_n 1, 1) := by decide +kernel
theorem dX7_init_96 : decode cX7_init 96 = .ok (.iload_n 1, 1) := by decide +kernel
theorem dX7_init_97 : decode cX7_init 97 = .ok (.bipush 6, 2) := by decide +kernel
theorem dX7_init_99 : decode cX7_init 99 = .ok (.if_icmp .ge 44, 3) := by decide +kernel
theorem dX7_init_102 : decode cX7_init 102 = .ok (.aload_n 0, 1) := by decide +kernel
theorem dX7_init_103 : decode cX7_init 103 = .ok (.getfield 7, 3) := by decide +kernel
theorem dX7_init_106 : decode cX7_init 106 = .ok (.iload_n 1, 1) := by decide +kernel
theorem dX7_init_107 : decode cX7_init 107 = .ok (.iconst 1, 1) := by decide +kernel
theorem dX7_init_108 : decode cX7_init 108 = .ok (.invokestatic 35, 3) := by decide +kernel
theorem dX7_init_111 : decode cX7_init 111 = .ok (.iconst 2, 1) := by decide +kernel
theorem dX7_init_112 : decode cX7_init 112 = .ok (.iastore, 1) := by decide +kernel
theorem dX7_init_113 : decode cX7_init 113 = .ok (.aload_n 0, 1) := by decide +kernel
theorem dX7_init_114 : decode cX7_init 114 = .ok (.getfield 7, 3) := by decide +kernel
theorem dX7_init_117 : decode cX7_init 117 = .ok (.iload_n 1, 1) := by decide +kernel
theorem dX7_init_118 : decode cX7_init 118 = .ok (.iconst 2, 1) := by decide +kernel
theorem dX7_init_119 : decode cX7_init 119 = .ok (.invokestatic 35, 3) := by decide +kernel
theorem dX7_init_122 : decode cX7_init 122 = .ok (.bipush (-6), 2) := by decide +kernel
theorem dX7_init_124 : decode cX7_init 124 = .ok (.iastore, 1) := by decide +kernel
theorem dX7_init_125 : decode cX7_init 125 = .ok (.aload_n 0, 1) := by decide +kernel
theorem dX7_init_126 : decode cX7_init 126 = .ok (.getfield 7, 3) := by decide +kernel
theorem dX7_init_129 : decode cX7_init 129 = .ok (.iload_n 1, 1) := by decide +kernel
theorem dX7_init_130 : decode cX7_init 130 = .ok (.iconst 3, 1) := by decide +kernel
theorem dX7_init_131 : decode cX7_init 131 = .ok (.invokestatic 35, 3) := by decide +kernel
theorem dX7_init_134 : decode cX7_init 134 = .ok (.bipush (-6), 2) := by decide +kernel
theorem dX7_init_136 : decode cX7_init 136 = .ok (.iastore, 1) := by decide +kernel
theorem dX7_init_137 : decode cX7_init 137 = .ok (.iinc 1 1, 3) := by decide +kernel
theorem dX7_init_140 : decode cX7_init 140 = .ok (.goto (-44), 3) := by decide +kernel
theorem dX7_init_143 : decode cX7_init 143 = .ok (.return_, 1) := by decide +kernel
theorem dX7_in_0 : decode cX7_in 0 = .ok (.iload_n 0, 1) := by decide +kernel
theorem dX7_in_1 : decode cX7_in 1 = .ok (.iload_n 1, 1) := by decide +kernel
theorem dX7_in_2 : decode cX7_in 2 = .ok (.if_icmp .lt 12, 3) := by decide +kernel
theorem dX7_in_5 : decode cX7_in 5 = .ok (.iload_n 0, 1) := by decide +kernel
theorem dX7_in_6 : decode cX7_in 6 = .ok (.iload_n 2, 1) := by decide +kernel
theorem dX7_in_7 : decode cX7_in 7 = .ok (.if_icmp .gt 7, 3) := by decide +kernel
theorem dX7_in_10 : decode cX7_in 10 = .ok (.iconst 1, 1) := by decide +kernel
theorem dX7_in_11 : decode cX7_in 11 = .ok (.goto 4, 3) := by decide +kernel
theorem dX7_in_14 : decode cX7_in 14 = .ok (.iconst 0, 1) := by decide +kernel
theorem dX7_in_15 : decode cX7_in 15 = .ok (.ireturn, 1) := by decide +kernel
theorem dX7_ofD_0 : decode cX7_ofD 0 = .ok (.bipush 6, 2) := by decide +kernel
theorem dX7_ofD_2 : decode cX7_ofD 2 = .ok (.iconst 4, 1) := by decide +kernel
theorem dX7_ofD_3 : decode cX7_ofD 3 = .ok (.iload_n 0, 1) := by decide +kernel
theorem dX7_ofD_4 : decode cX7_ofD 4 = .ok (.imul, 1) := by decide +kernel
theorem dX7_ofD_5 : decode cX7_ofD 5 = .ok (.iadd, 1) := by decide +kernel
theorem dX7_ofD_6 : decode cX7_ofD 6 = .ok (.iload_n 1, 1) := by decide +kernel
theorem dX7_ofD_7 : decode cX7_ofD 7 = .ok (.iadd, 1) := by decide +kernel
theorem dX7_ofD_8 : decode cX7_ofD 8 = .ok (.ireturn, 1) := by decide +kernel
theorem dX7_ofL_0 : decode cX7_ofL 0 = .ok (.bipush 30, 2) := by decide +kernel
theorem dX7_ofL_2 : decode cX7_ofL 2 = .ok (.bipush 7, 2) := by decide +kernel
theorem dX7_ofL_4 : decode cX7_ofL 4 = .ok (.iload_n 0, 1) := by decide +kernel
theorem dX7_ofL_5 : decode cX7_ofL 5 = .ok (.imul, 1) := by decide +kernel
theorem dX7_ofL_6 : decode cX7_ofL 6 = .ok (.iadd, 1) := by decide +kernel
theorem dX7_ofL_7 : decode cX7_ofL 7 = .ok (.iload_n 1, 1) := by decide +kernel
theorem dX7_ofL_8 : decode cX7_ofL 8 = .ok (.iadd, 1) := by decide +kernel
theorem dX7_ofL_9 : decode cX7_ofL 9 = .ok (.ireturn, 1) := by decide +kernel
set_option maxRecDepth 20000 in
theorem ggX7_isMood_X7_in : GoodIn wsX7_isMood wsX7_in := goodIn_r _ [4] (by decide +kernel) (by decide +kernel)
set_option maxRecDepth 20000 in
theorem gX7_isMood_X7_in : GoodIn wsX7_isMood (va_wsS RX7 39 yX7_in wsX7_in) := goodIn_app (goodIn_of _ (by decide +kernel)) ggX7_isMood_X7_in
theorem dX7_isMood_0 : decode cX7_isMood 0 = .ok (.iload_n 0, 1) := by decide +kernel
theorem dX7_isMood_1 : decode cX7_isMood 1 = .ok (.iconst 0, 1) := by decide +kernel
theorem dX7_isMood_2 : decode cX7_isMood 2 = .ok (.iconst 5, 1) := by decide +kernel
theorem dX7_isMood_3 : decode cX7_isMood 3 = .ok (.invokestatic 39, 3) := by decide +kernel
theorem dX7_isMood_6 : decode cX7_isMood 6 = .ok (.ireturn, 1) := by decide +kernel
set_option maxRecDepth 20000 in
theorem ggX7_isLetter_X7_in : GoodIn wsX7_isLetter wsX7_in := goodIn_r _ [5] (by decide +kernel) (by decide +kernel)
set_option maxRecDepth 20000 in
theorem gX7_isLetter_X7_in : GoodIn wsX7_isLetter (va_wsS RX7 39 yX7_in wsX7_in) := goodIn_app (goodIn_of _ (by decide +kernel)) ggX7_isLetter_X7_in
theorem dX7_isLetter_0 : decode cX7_isLetter 0 = .ok (.iload_n 1, 1) := by decide +kernel
theorem dX7_isLetter_1 : decode cX7_isLetter 1 = .ok (.iconst 0, 1) := by decide +kernel
theorem dX7_isLetter_2 : decode cX7_isLetter 2 = .ok (.aload_n 0, 1) := by decide +kernel
theorem dX7_isLetter_3 : decode cX7_isLetter 3 = .ok (.getfield 7, 3) := by decide +kernel
theorem dX7_isLetter_6 : decode cX7_isLetter 6 = .ok (.iconst 5, 1) := by decide +kernel
theorem dX7_isLetter_7 : decode cX7_isLetter 7 = .ok (.iaload, 1) := by decide +kernel
theorem dX7_isLetter_8 : decode cX7_isLetter 8 = .ok (.iconst 1, 1) := by decide +kernel
theorem dX7_isLetter_9 : decode cX7_isLetter 9 = .ok (.isub, 1) := by decide +kernel
theorem dX7_isLetter_10 : decode cX7_isLetter 10 = .ok (.invokestatic 39, 3) := by decide +kernel
theorem dX7_isLetter_13 : decode cX7_isLetter 13 = .ok (.ireturn, 1) := by decide +kernel
theorem dX7_know_0 : decode cX7_know 0 = .ok (.aload_n 0, 1) := by decide +kernel
theorem dX7_know_1 : decode cX7_know 1 = .ok (.getfield 43, 3) := by decide +kernel
theorem dX7_know_4 : decode cX7_know 4 = .ok (.bipush 6, 2) := by decide +kernel
theorem dX7_know_6 : decode cX7_know 6 = .ok (.if_icmp .ne 44, 3) := by decide +kernel
theorem dX7_know_9 : decode cX7_know 9 = .ok (.iconst 0, 1) := by decide +kernel
theorem dX7_know_10 : decode cX7_know 10 = .ok (.istore_n 1, 1) := by decide +kernel
theorem dX7_know_11 : decode cX7_know 11 = .ok (.iload_n 1, 1) := by decide +kernel
theorem dX7_know_12 : decode cX7_know 12 = .ok (.sipush 1200, 3) := by decide +kernel
theorem dX7_know_15 : decode cX7_know 15 = .ok (.if_icmp .ge 25, 3) := by decide +kernel
theorem dX7_know_18 : decode cX7_know 18 = .ok (.aload_n 0, 1) := by decide +kernel
theorem dX7_know_19 : decode cX7_know 19 = .ok (.getfield 16, 3) := by decide +kernel
theorem dX7_know_22 : decode cX7_know 22 = .ok (.iload_n 1, 1) := by decide +kernel
theorem dX7_know_23 : decode cX7_know 23 = .ok (.aload_n 0, 1) := by decide +kernel
theorem dX7_know_24 : decode cX7_know 24 = .ok (.getfield 16, 3) := by decide +kernel
theorem dX7_know_27 : decode cX7_know 27 = .ok (.sipush 240, 3) := by decide +kernel
theorem dX7_know_30 : decode cX7_know 30 = .ok (.iload_n 1, 1) := by decide +kernel
theorem dX7_know_31 : decode cX7_know 31 = .ok (.iadd, 1) := by decide +kernel
theorem dX7_know_32 : decode cX7_know 32 = .ok (.iaload, 1) := by decide +kernel
theorem dX7_know_33 : decode cX7_know 33 = .ok (.iastore, 1) := by decide +kernel
theorem dX7_know_34 : decode cX7_know 34 = .ok (.iinc 1 1, 3) := by decide +kernel
theorem dX7_know_37 : decode cX7_know 37 = .ok (.goto (-26), 3) := by decide +kernel
theorem dX7_know_40 : decode cX7_know 40 = .ok (.aload_n 0, 1) := by decide +kernel
theorem dX7_know_41 : decode cX7_know 41 = .ok (.dup, 1) := by decide +kernel
theorem dX7_know_42 : decode cX7_know 42 = .ok (.getfield 43, 3) := by decide +kernel
theorem dX7_know_45 : decode cX7_know 45 = .ok (.iconst 1, 1) := by decide +kernel
theorem dX7_know_46 : decode cX7_know 46 = .ok (.isub, 1) := by decide +kernel
theorem dX7_know_47 : decode cX7_know 47 = .ok (.putfield 43, 3) := by decide +kernel
theorem dX7_know_50 : decode cX7_know 50 = .ok (.iconst 0, 1) := by decide +kernel
theorem dX7_know_51 : decode cX7_know 51 = .ok (.istore_n 1, 1) := by decide +kernel
theorem dX7_know_52 : decode cX7_know 52 = .ok (.iload_n 1, 1) := by decide +kernel
theorem dX7_know_53 : decode cX7_know 53 = .ok (.sipush 240, 3) := by decide +kernel
theorem dX7_know_56 : decode cX7_know 56 = .ok (.if_icmp .ge 30, 3) := by decide +kernel
theorem dX7_know_59 : decode cX7_know 59 = .ok (.aload_n 0, 1) := by decide +kernel
theorem dX7_know_60 : decode cX7_know 60 = .ok (.getfield 16, 3) := by decide +kernel
theorem dX7_know_63 : decode cX7_know 63 = .ok (.sipush 240, 3) := by decide +kernel
theorem dX7_know_66 : decode cX7_know 66 = .ok (.aload_n 0, 1) := by decide +kernel
theorem dX7_know_67 : decode cX7_know 67 = .ok (.getfield 43, 3) := by decide +kernel
theorem dX7_know_70 : decode cX7_know 70 = .ok (.imul, 1) := by decide +kernel
theorem dX7_know_71 : decode cX7_know 71 = .ok (.iload_n 1, 1) := by decide +kernel
theorem dX7_know_72 : decode cX7_know 72 = .ok (.iadd, 1) := by decide +kernel
theorem dX7_know_73 : decode cX7_know 73 = .ok (.aload_n 0, 1) := by decide +kernel
theorem dX7_know_74 : decode cX7_know 74 = .ok (.getfield 7, 3) := by decide +kernel
theorem dX7_know_77 : decode cX7_know 77 = .ok (.iload_n 1, 1) := by decide +kernel
theorem dX7_know_78 : decode cX7_know 78 = .ok (.iaload, 1) := by decide +kernel
theorem dX7_know_79 : decode cX7_know 79 = .ok (.iastore, 1) := by decide +kernel
theorem dX7_know_80 : decode cX7_know 80 = .ok (.iinc 1 1, 3) := by decide +kernel
theorem dX7_know_83 : decode cX7_know 83 = .ok (.goto (-31), 3) := by decide +kernel
theorem dX7_know_86 : decode cX7_know 86 = .ok (.aload_n 0, 1) := by decide +kernel
theorem dX7_know_87 : decode cX7_know 87 = .ok (.dup, 1) := by decide +kernel
theorem dX7_know_88 : decode cX7_know 88 = .ok (.getfield 43, 3) := by decide +kernel
theorem dX7_know_91 : decode cX7_know 91 = .ok (.iconst 1, 1) := by decide +kernel
theorem dX7_know_92 : decode cX7_know 92 = .ok (.iadd, 1) := by decide +kernel
theorem dX7_know_93 : decode cX7_know 93 = .ok (.putfield 43, 3) := by decide +kernel
theorem dX7_know_96 : decode cX7_know 96 = .ok (.return_, 1) := by decide +kernel
theorem dX7_putAside_0 : decode cX7_putAside 0 = .ok (.iconst 0, 1) := by decide +kernel
theorem dX7_putAside_1 : decode cX7_putAside 1 = .ok (.istore_n 1, 1) := by decide +kernel
theorem dX7_putAside_2 : decode cX7_putAside 2 = .ok (.iload_n 1, 1) := by decide +kernel
theorem dX7_putAside_3 : decode cX7_putAside 3 = .ok (.sipush 240, 3) := by decide +kernel
theorem dX7_putAside_6 : decode cX7_putAside 6 = .ok (.if_icmp .ge 21, 3) := by decide +kernel
theorem dX7_putAside_9 : decode cX7_putAside 9 = .ok (.aload_n 0, 1) := by decide +kernel
theorem dX7_putAside_10 : decode cX7_putAside 10 = .ok (.getfield 13, 3) := by decide +kernel
theorem dX7_putAside_13 : decode cX7_putAside 13 = .ok (.iload_n 1, 1) := by decide +kernel
theorem dX7_putAside_14 : decode cX7_putAside 14 = .ok (.aload_n 0, 1) := by decide +kernel
theorem dX7_putAside_15 : decode cX7_putAside 15 = .ok (.getfield 7, 3) := by decide +kernel
theorem dX7_putAside_18 : decode cX7_putAside 18 = .ok (.iload_n 1, 1) := by decide +kernel
theorem dX7_putAside_19 : decode cX7_putAside 19 = .ok (.iaload, 1) := by decide +kernel
theorem dX7_putAside_20 : decode cX7_putAside 20 = .ok (.iastore, 1) := by decide +kernel
theorem dX7_putAside_21 : decode cX7_putAside 21 = .ok (.iinc 1 1, 3) := by decide +kernel
theorem dX7_putAside_24 : decode cX7_putAside 24 = .ok (.goto (-22), 3) := by decide +kernel
theorem dX7_putAside_27 : decode cX7_putAside 27 = .ok (.return_, 1) := by decide +kernel
theorem dX7_putBack_0 : decode cX7_putBack 0 = .ok (.iconst 0, 1) := by decide +kernel
theorem dX7_putBack_1 : decode cX7_putBack 1 = .ok (.istore_n 1, 1) := by decide +kernel
theorem dX7_putBack_2 : decode cX7_putBack 2 = .ok (.iload_n 1, 1) := by decide +kernel
theorem dX7_putBack_3 : decode cX7_putBack 3 = .ok (.sipush 240, 3) := by decide +kernel
theorem dX7_putBack_6 : decode cX7_putBack 6 = .ok (.if_icmp .ge 21, 3) := by decide +kernel
theorem dX7_putBack_9 : decode cX7_putBack 9 = .ok (.aload_n 0, 1) := by decide +kernel
theorem dX7_putBack_10 : decode cX7_putBack 10 = .ok (.getfield 7, 3) := by decide +kernel
theorem dX7_putBack_13 : decode cX7_putBack 13 = .ok (.iload_n 1, 1) := by decide +kernel
theorem dX7_putBack_14 : decode cX7_putBack 14 = .ok (.aload_n 0, 1) := by decide +kernel
theorem dX7_putBack_15 : decode cX7_putBack 15 = .ok (.getfield 13, 3) := by decide +kernel
theorem dX7_putBack_18 : decode cX7_putBack 18 = .ok (.iload_n 1, 1) := by decide +kernel
theorem dX7_putBack_19 : decode cX7_putBack 19 = .ok (.iaload, 1) := by decide +kernel
theorem dX7_putBack_20 : decode cX7_putBack 20 = .ok (.iastore, 1) := by decide +kernel
theorem dX7_putBack_21 : decode cX7_putBack 21 = .ok (.iinc 1 1, 3) := by decide +kernel
theorem dX7_putBack_24 : decode cX7_putBack 24 = .ok (.goto (-22), 3) := by decide +kernel
theorem dX7_putBack_27 : decode cX7_putBack 27 = .ok (.return_, 1) := by decide +kernel
set_option maxRecDepth 20000 in
theorem ggX7_heat_X7_ofL : GoodIn wsX7_heat wsX7_ofL := goodIn_r _ [5] (by decide +kernel) (by decide +kernel)
set_option maxRecDepth 20000 in
theorem gX7_heat_X7_ofL : GoodIn wsX7_heat (va_wsS RX7 47 yX7_ofL wsX7_ofL) := goodIn_app (goodIn_of _ (by decide +kernel)) ggX7_heat_X7_ofL
theorem dX7_heat_0 : decode cX7_heat 0 = .ok (.aload_n 0, 1) := by decide +kernel
theorem dX7_heat_1 : decode cX7_heat 1 = .ok (.getfield 7, 3) := by decide +kernel
theorem dX7_heat_4 : decode cX7_heat 4 = .ok (.iload_n 1, 1) := by decide +kernel
theorem dX7_heat_5 : decode cX7_heat 5 = .ok (.iconst 3, 1) := by decide +kernel
theorem dX7_heat_6 : decode cX7_heat 6 = .ok (.invokestatic 47, 3) := by decide +kernel
theorem dX7_heat_9 : decode cX7_heat 9 = .ok (.iaload, 1) := by decide +kernel
theorem dX7_heat_10 : decode cX7_heat 10 = .ok (.iconst 1, 1) := by decide +kernel
theorem dX7_heat_11 : decode cX7_heat 11 = .ok (.if_icmp .ne 15, 3) := by decide +kernel
theorem dX7_heat_14 : decode cX7_heat 14 = .ok (.aload_n 0, 1) := by decide +kernel
theorem dX7_heat_15 : decode cX7_heat 15 = .ok (.getfield 7, 3) := by decide +kernel
theorem dX7_heat_18 : decode cX7_heat 18 = .ok (.iload_n 1, 1) := by decide +kernel
theorem dX7_heat_19 : decode cX7_heat 19 = .ok (.bipush 6, 2) := by decide +kernel
theorem dX7_heat_21 : decode cX7_heat 21 = .ok (.invokestatic 47, 3) := by decide +kernel
theorem dX7_heat_24 : decode cX7_heat 24 = .ok (.iaload, 1) := by decide +kernel
theorem dX7_heat_25 : decode cX7_heat 25 = .ok (.ireturn, 1) := by decide +kernel
theorem dX7_heat_26 : decode cX7_heat 26 = .ok (.aload_n 0, 1) := by decide +kernel
theorem dX7_heat_27 : decode cX7_heat 27 = .ok (.getfield 7, 3) := by decide +kernel
theorem dX7_heat_30 : decode cX7_heat 30 = .ok (.iload_n 1, 1) := by decide +kernel
theorem dX7_heat_31 : decode cX7_heat 31 = .ok (.iconst 1, 1) := by decide +kernel
theorem dX7_heat_32 : decode cX7_heat 32 = .ok (.invokestatic 47, 3) := by decide +kernel
theorem dX7_heat_35 : decode cX7_heat 35 = .ok (.iaload, 1) := by decide +kernel
theorem dX7_heat_36 : decode cX7_heat 36 = .ok (.aload_n 0, 1) := by decide +kernel
theorem dX7_heat_37 : decode cX7_heat 37 = .ok (.getfield 7, 3) := by decide +kernel
theorem dX7_heat_40 : decode cX7_heat 40 = .ok (.iconst 2, 1) := by decide +kernel
theorem dX7_heat_41 : decode cX7_heat 41 = .ok (.iaload, 1) := by decide +kernel
theorem dX7_heat_42 : decode cX7_heat 42 = .ok (.aload_n 0, 1) := by decide +kernel
theorem dX7_heat_43 : decode cX7_heat 43 = .ok (.getfield 7, 3) := by decide +kernel
theorem dX7_heat_46 : decode cX7_heat 46 = .ok (.iconst 3, 1) := by decide +kernel
theorem dX7_heat_47 : decode cX7_heat 47 = .ok (.iaload, 1) := by decide +kernel
theorem dX7_heat_48 : decode cX7_heat 48 = .ok (.aload_n 0, 1) := by decide +kernel
theorem dX7_heat_49 : decode cX7_heat 49 = .ok (.getfield 7, 3) := by decide +kernel
theorem dX7_heat_52 : decode cX7_heat 52 = .ok (.iload_n 1, 1) := by decide +kernel
theorem dX7_heat_53 : decode cX7_heat 53 = .ok (.iconst 2, 1) := by decide +kernel
theorem dX7_heat_54 : decode cX7_heat 54 = .ok (.invokestatic 47, 3) := by decide +kernel
theorem dX7_heat_57 : decode cX7_heat 57 = .ok (.iaload, 1) := by decide +kernel
theorem dX7_heat_58 : decode cX7_heat 58 = .ok (.isub, 1) := by decide +kernel
theorem dX7_heat_59 : decode cX7_heat 59 = .ok (.imul, 1) := by decide +kernel
theorem dX7_heat_60 : decode cX7_heat 60 = .ok (.isub, 1) := by decide +kernel
theorem dX7_heat_61 : decode cX7_heat 61 = .ok (.istore_n 2, 1) := by decide +kernel
theorem dX7_heat_62 : decode cX7_heat 62 = .ok (.iload_n 2, 1) := by decide +kernel
theorem dX7_heat_63 : decode cX7_heat 63 = .ok (.ifCond .ge 7, 3) := by decide +kernel
theorem dX7_heat_66 : decode cX7_heat 66 = .ok (.iconst 0, 1) := by decide +kernel
theorem dX7_heat_67 : decode cX7_heat 67 = .ok (.goto 4, 3) := by decide +kernel
theorem dX7_heat_70 : decode cX7_heat 70 = .ok (.iload_n 2, 1) := by decide +kernel
theorem dX7_heat_71 : decode cX7_heat 71 = .ok (.ireturn, 1) := by decide +kernel
set_option maxRecDepth 20000 in
theorem ggX7_many_X7_ofL : GoodIn wsX7_many wsX7_ofL := goodIn_r _ [5] (by decide +kernel) (by decide +kernel)
set_option maxRecDepth 20000 in
theorem gX7_many_X7_ofL : GoodIn wsX7_many (va_wsS RX7 47 yX7_ofL wsX7_ofL) := goodIn_app (goodIn_of _ (by decide +kernel)) ggX7_many_X7_ofL
theorem dX7_many_0 : decode cX7_many 0 = .ok (.iconst 0, 1) := by decide +kernel
theorem dX7_many_1 : decode cX7_many 1 = .ok (.istore_n 3, 1) := by decide +kernel
theorem dX7_many_2 : decode cX7_many 2 = .ok (.iconst 0, 1) := by decide +kernel
theorem dX7_many_3 : decode cX7_many 3 = .ok (.istore 4, 2) := by decide +kernel
theorem dX7_many_5 : decode cX7_many 5 = .ok (.iload 4, 2) := by decide +kernel
theorem dX7_many_7 : decode cX7_many 7 = .ok (.aload_n 0, 1) := by decide +kernel
theorem dX7_many_8 : decode cX7_many 8 = .ok (.getfield 7, 3) := by decide +kernel
theorem dX7_many_11 : decode cX7_many 11 = .ok (.iconst 5, 1) := by decide +kernel
theorem dX7_many_12 : decode cX7_many 12 = .ok (.iaload, 1) := by decide +kernel
theorem dX7_many_13 : decode cX7_many 13 = .ok (.if_icmp .ge 53, 3) := by decide +kernel
theorem dX7_many_16 : decode cX7_many 16 = .ok (.iload_n 3, 1) := by decide +kernel
theorem dX7_many_17 : decode cX7_many 17 = .ok (.aload_n 0, 1) := by decide +kernel
theorem dX7_many_18 : decode cX7_many 18 = .ok (.getfield 7, 3) := by decide +kernel
theorem dX7_many_21 : decode cX7_many 21 = .ok (.iload 4, 2) := by decide +kernel
theorem dX7_many_23 : decode cX7_many 23 = .ok (.iconst 3, 1) := by decide +kernel
theorem dX7_many_24 : decode cX7_many 24 = .ok (.invokestatic 47, 3) := by decide +kernel
theorem dX7_many_27 : decode cX7_many 27 = .ok (.iaload, 1) := by decide +kernel
theorem dX7_many_28 : decode cX7_many 28 = .ok (.iload_n 2, 1) := by decide +kernel
theorem dX7_many_29 : decode cX7_many 29 = .ok (.if_icmp .ne 28, 3) := by decide +kernel
theorem dX7_many_32 : decode cX7_many 32 = .ok (.iload_n 1, 1) := by decide +kernel
theorem dX7_many_33 : decode cX7_many 33 = .ok (.bipush 6, 2) := by decide +kernel
theorem dX7_many_35 : decode cX7_many 35 = .ok (.if_icmp .eq 18, 3) := by decide +kernel
theorem dX7_many_38 : decode cX7_many 38 = .ok (.aload_n 0, 1) := by decide +kernel
theorem dX7_many_39 : decode cX7_many 39 = .ok (.getfield 7, 3) := by decide +kernel
theorem dX7_many_42 : decode cX7_many 42 = .ok (.iload 4, 2) := by decide +kernel
theorem dX7_many_44 : decode cX7_many 44 = .ok (.iconst 0, 1) := by decide +kernel
theorem dX7_many_45 : decode cX7_many 45 = .ok (.invokestatic 47, 3) := by decide +kernel
theorem dX7_many_48 : decode cX7_many 48 = .ok (.iaload, 1) := by decide +kernel
theorem dX7_many_49 : decode cX7_many 49 = .ok (.iload_n 1, 1) := by decide +kernel
theorem dX7_many_50 : decode cX7_many 50 = .ok (.if_icmp .ne 7, 3) := by decide +kernel
theorem dX7_many_53 : decode cX7_many 53 = .ok (.iconst 1, 1) := by decide +kernel
theorem dX7_many_54 : decode cX7_many 54 = .ok (.goto 4, 3) := by decide +kernel
theorem dX7_many_57 : decode cX7_many 57 = .ok (.iconst 0, 1) := by decide +kernel
theorem dX7_many_58 : decode cX7_many 58 = .ok (.iadd, 1) := by decide +kernel
theorem dX7_many_59 : decode cX7_many 59 = .ok (.istore_n 3, 1) := by decide +kernel
theorem dX7_many_60 : decode cX7_many 60 = .ok (.iinc 4 1, 3) := by decide +kernel
theorem dX7_many_63 : decode cX7_many 63 = .ok (.goto (-58), 3) := by decide +kernel
theorem dX7_many_66 : decode cX7_many 66 = .ok (.iload_n 3, 1) := by decide +kernel
theorem dX7_many_67 : decode cX7_many 67 = .ok (.ireturn, 1) := by decide +kernel
set_option maxRecDepth 20000 in
theorem ggX7_wouldGo_X7_ofL : GoodIn wsX7_wouldGo wsX7_ofL := goodIn_r _ [5] (by decide +kernel) (by decide +kernel)
set_option maxRecDepth 20000 in
theorem gX7_wouldGo_X7_ofL : GoodIn wsX7_wouldGo (va_wsS RX7 47 yX7_ofL wsX7_ofL) := goodIn_app (goodIn_of _ (by decide +kernel)) ggX7_wouldGo_X7_ofL
set_option maxRecDepth 20000 in
theorem ggX7_wouldGo_X7_ofD : GoodIn wsX7_wouldGo wsX7_ofD := goodIn_r _ [8] (by decide +kernel) (by decide +kernel)
set_option maxRecDepth 20000 in
theorem gX7_wouldGo_X7_ofD : GoodIn wsX7_wouldGo (va_wsS RX7 35 yX7_ofD wsX7_ofD) := goodIn_app (goodIn_of _ (by decide +kernel)) ggX7_wouldGo_X7_ofD
set_option maxRecDepth 20000 in
theorem ggX7_wouldGo_X7_heat : GoodIn wsX7_wouldGo wsX7_heat := goodIn_r _ [12, 1, 2, 3, 4, 5, 13, 14, 15, 16, 17, 18, 19, 20, 21, 22, 23, 24, 25, 26, 27, 28] (by decide +kernel) (by decide +kernel)
set_option maxRecDepth 20000 in
theorem gX7_wouldGo_X7_heat : GoodIn wsX7_wouldGo (wsV RX7 50 RX7 yX7_heat wsX7_heat) := goodIn_app (goodIn_of _ (by decide +kernel)) ggX7_wouldGo_X7_heat
theorem dX7_wouldGo_0 : decode cX7_wouldGo 0 = .ok (.aload_n 0, 1) := by decide +kernel
theorem dX7_wouldGo_1 : decode cX7_wouldGo 1 = .ok (.getfield 7, 3) := by decide +kernel
theorem dX7_wouldGo_4 : decode cX7_wouldGo 4 = .ok (.iload_n 1, 1) := by decide +kernel
theorem dX7_wouldGo_5 : decode cX7_wouldGo 5 = .ok (.iconst 0, 1) := by decide +kernel
theorem dX7_wouldGo_6 : decode cX7_wouldGo 6 = .ok (.invokestatic 47, 3) := by decide +kernel
theorem dX7_wouldGo_9 : decode cX7_wouldGo 9 = .ok (.iaload, 1) := by decide +kernel
theorem dX7_wouldGo_10 : decode cX7_wouldGo 10 = .ok (.istore_n 2, 1) := by decide +kernel
theorem dX7_wouldGo_11 : decode cX7_wouldGo 11 = .ok (.aload_n 0, 1) := by decide +kernel
theorem dX7_wouldGo_12 : decode cX7_wouldGo 12 = .ok (.getfield 7, 3) := by decide +kernel
theorem dX7_wouldGo_15 : decode cX7_wouldGo 15 = .ok (.iload_n 1, 1) := by decide +kernel
theorem dX7_wouldGo_16 : decode cX7_wouldGo 16 = .ok (.iconst 3, 1) := by decide +kernel
theorem dX7_wouldGo_17 : decode cX7_wouldGo 17 = .ok (.invokestatic 47, 3) := by decide +kernel
theorem dX7_wouldGo_20 : decode cX7_wouldGo 20 = .ok (.iaload, 1) := by decide +kernel
theorem dX7_wouldGo_21 : decode cX7_wouldGo 21 = .ok (.ifCond .ne 20, 3) := by decide +kernel
theorem dX7_wouldGo_24 : decode cX7_wouldGo 24 = .ok (.aload_n 0, 1) := by decide +kernel
theorem dX7_wouldGo_25 : decode cX7_wouldGo 25 = .ok (.getfield 7, 3) := by decide +kernel
theorem dX7_wouldGo_28 : decode cX7_wouldGo 28 = .ok (.iload_n 2, 1) := by decide +kernel
theorem dX7_wouldGo_29 : decode cX7_wouldGo 29 = .ok (.iconst 0, 1) := by decide +kernel
theorem dX7_wouldGo_30 : decode cX7_wouldGo 30 = .ok (.invokestatic 35, 3) := by decide +kernel
theorem dX7_wouldGo_33 : decode cX7_wouldGo 33 = .ok (.iaload, 1) := by decide +kernel
theorem dX7_wouldGo_34 : decode cX7_wouldGo 34 = .ok (.ifCond .ne 7, 3) := by decide +kernel
theorem dX7_wouldGo_37 : decode cX7_wouldGo 37 = .ok (.iconst 1, 1) := by decide +kernel
theorem dX7_wouldGo_38 : decode cX7_wouldGo 38 = .ok (.goto 4, 3) := by decide +kernel
theorem dX7_wouldGo_41 : decode cX7_wouldGo 41 = .ok (.iconst 0, 1) := by decide +kernel
theorem dX7_wouldGo_42 : decode cX7_wouldGo 42 = .ok (.istore_n 3, 1) := by decide +kernel
theorem dX7_wouldGo_43 : decode cX7_wouldGo 43 = .ok (.iload_n 3, 1) := by decide +kernel
theorem dX7_wouldGo_44 : decode cX7_wouldGo 44 = .ok (.ifCond .eq 51, 3) := by decide +kernel
theorem dX7_wouldGo_47 : decode cX7_wouldGo 47 = .ok (.aload_n 0, 1) := by decide +kernel
theorem dX7_wouldGo_48 : decode cX7_wouldGo 48 = .ok (.getfield 7, 3) := by decide +kernel
theorem dX7_wouldGo_51 : decode cX7_wouldGo 51 = .ok (.iconst 3, 1) := by decide +kernel
theorem dX7_wouldGo_52 : decode cX7_wouldGo 52 = .ok (.iaload, 1) := by decide +kernel
theorem dX7_wouldGo_53 : decode cX7_wouldGo 53 = .ok (.aload_n 0, 1) := by decide +kernel
theorem dX7_wouldGo_54 : decode cX7_wouldGo 54 = .ok (.getfield 7, 3) := by decide +kernel
theorem dX7_wouldGo_57 : decode cX7_wouldGo 57 = .ok (.iload_n 1, 1) := by decide +kernel
theorem dX7_wouldGo_58 : decode cX7_wouldGo 58 = .ok (.iconst 2, 1) := by decide +kernel
theorem dX7_wouldGo_59 : decode cX7_wouldGo 59 = .ok (.invokestatic 47, 3) := by decide +kernel
theorem dX7_wouldGo_62 : decode cX7_wouldGo 62 = .ok (.iaload, 1) := by decide +kernel
theorem dX7_wouldGo_63 : decode cX7_wouldGo 63 = .ok (.isub, 1) := by decide +kernel
theorem dX7_wouldGo_64 : decode cX7_wouldGo 64 = .ok (.aload_n 0, 1) := by decide +kernel
theorem dX7_wouldGo_65 : decode cX7_wouldGo 65 = .ok (.getfield 7, 3) := by decide +kernel
theorem dX7_wouldGo_68 : decode cX7_wouldGo 68 = .ok (.iload_n 2, 1) := by decide +kernel
theorem dX7_wouldGo_69 : decode cX7_wouldGo 69 = .ok (.iconst 1, 1) := by decide +kernel
theorem dX7_wouldGo_70 : decode cX7_wouldGo 70 = .ok (.invokestatic 35, 3) := by decide +kernel
theorem dX7_wouldGo_73 : decode cX7_wouldGo 73 = .ok (.iaload, 1) := by decide +kernel
theorem dX7_wouldGo_74 : decode cX7_wouldGo 74 = .ok (.if_icmp .lt 21, 3) := by decide +kernel
theorem dX7_wouldGo_77 : decode cX7_wouldGo 77 = .ok (.aload_n 0, 1) := by decide +kernel
theorem dX7_wouldGo_78 : decode cX7_wouldGo 78 = .ok (.iload_n 1, 1) := by decide +kernel
theorem dX7_wouldGo_79 : decode cX7_wouldGo 79 = .ok (.invokevirtual 50, 3) := by decide +kernel
theorem dX7_wouldGo_82 : decode cX7_wouldGo 82 = .ok (.aload_n 0, 1) := by decide +kernel
theorem dX7_wouldGo_83 : decode cX7_wouldGo 83 = .ok (.getfield 7, 3) := by decide +kernel
theorem dX7_wouldGo_86 : decode cX7_wouldGo 86 = .ok (.iconst 1, 1) := by decide +kernel
theorem dX7_wouldGo_87 : decode cX7_wouldGo 87 = .ok (.iaload, 1) := by decide +kernel
theorem dX7_wouldGo_88 : decode cX7_wouldGo 88 = .ok (.if_icmp .gt 7, 3) := by decide +kernel
theorem dX7_wouldGo_91 : decode cX7_wouldGo 91 = .ok (.iconst 1, 1) := by decide +kernel
theorem dX7_wouldGo_92 : decode cX7_wouldGo 92 = .ok (.goto 4, 3) := by decide +kernel
theorem dX7_wouldGo_95 : decode cX7_wouldGo 95 = .ok (.iconst 0, 1) := by decide +kernel
theorem dX7_wouldGo_96 : decode cX7_wouldGo 96 = .ok (.ireturn, 1) := by decide +kernel
set_option maxRecDepth 20000 in
theorem ggX7_hour_X7_ofD : GoodIn wsX7_hour wsX7_ofD := goodIn_r _ [5] (by decide +kernel) (by decide +kernel)
set_option maxRecDepth 20000 in
theorem gX7_hour_X7_ofD : GoodIn wsX7_hour (va_wsS RX7 35 yX7_ofD wsX7_ofD) := goodIn_app (goodIn_of _ (by decide +kernel)) ggX7_hour_X7_ofD
set_option maxRecDepth 20000 in
theorem ggX7_hour_X7_wouldGo : GoodIn wsX7_hour wsX7_wouldGo := goodIn_r _ [9, 1, 10, 11, 4, 12, 2, 3, 5, 13, 14, 15, 16, 17, 18, 19, 20, 21, 22, 23, 24, 25, 26, 27, 28, 29, 30, 31, 32] (by decide +kernel) (by decide +kernel)
set_option maxRecDepth 20000 in
theorem gX7_hour_X7_wouldGo : GoodIn wsX7_hour (wsV RX7 54 RX7 yX7_wouldGo wsX7_wouldGo) := goodIn_app (goodIn_of _ (by decide +kernel)) ggX7_hour_X7_wouldGo
set_option maxRecDepth 20000 in
theorem ggX7_hour_X7_ofL : GoodIn wsX7_hour wsX7_ofL := goodIn_r _ [12] (by decide +kernel) (by decide +kernel)
set_option maxRecDepth 20000 in
theorem gX7_hour_X7_ofL : GoodIn wsX7_hour (va_wsS RX7 47 yX7_ofL wsX7_ofL) := goodIn_app (goodIn_of _ (by decide +kernel)) ggX7_hour_X7_ofL
set_option maxRecDepth 20000 in
theorem ggX7_hour_X7_heat : GoodIn wsX7_hour wsX7_heat := goodIn_r _ [16, 1, 10, 11, 4, 12, 17, 18, 19, 20, 21, 22, 23, 24, 25, 26, 27, 28, 29, 30, 31, 32] (by decide +kernel) (by decide +kernel)
set_option maxRecDepth 20000 in
theorem gX7_hour_X7_heat : GoodIn wsX7_hour (wsV RX7 50 RX7 yX7_heat wsX7_heat) := goodIn_app (goodIn_of _ (by decide +kernel)) ggX7_hour_X7_heat
theorem dX7_hour_0 : decode cX7_hour 0 = .ok (.iconst 0, 1) := by decide +kernel
theorem dX7_hour_1 : decode cX7_hour 1 = .ok (.istore_n 1, 1) := by decide +kernel
theorem dX7_hour_2 : decode cX7_hour 2 = .ok (.iload_n 1, 1) := by decide +kernel
theorem dX7_hour_3 : decode cX7_hour 3 = .ok (.bipush 6, 2) := by decide +kernel
theorem dX7_hour_5 : decode cX7_hour 5 = .ok (.if_icmp .ge 75, 3) := by decide +kernel
theorem dX7_hour_8 : decode cX7_hour 8 = .ok (.aload_n 0, 1) := by decide +kernel
theorem dX7_hour_9 : decode cX7_hour 9 = .ok (.getfield 7, 3) := by decide +kernel
theorem dX7_hour_12 : decode cX7_hour 12 = .ok (.iload_n 1, 1) := by decide +kernel
theorem dX7_hour_13 : decode cX7_hour 13 = .ok (.iconst 0, 1) := by decide +kernel
theorem dX7_hour_14 : decode cX7_hour 14 = .ok (.invokestatic 35, 3) := by decide +kernel
theorem dX7_hour_17 : decode cX7_hour 17 = .ok (.aload_n 0, 1) := by decide +kernel
theorem dX7_hour_18 : decode cX7_hour 18 = .ok (.getfield 7, 3) := by decide +kernel
theorem dX7_hour_21 : decode cX7_hour 21 = .ok (.iload_n 1, 1) := by decide +kernel
theorem dX7_hour_22 : decode cX7_hour 22 = .ok (.iconst 2, 1) := by decide +kernel
theorem dX7_hour_23 : decode cX7_hour 23 = .ok (.invokestatic 35, 3) := by decide +kernel
theorem dX7_hour_26 : decode cX7_hour 26 = .ok (.iaload, 1) := by decide +kernel
theorem dX7_hour_27 : decode cX7_hour 27 = .ok (.aload_n 0, 1) := by decide +kernel
theorem dX7_hour_28 : decode cX7_hour 28 = .ok (.getfield 7, 3) := by decide +kernel
theorem dX7_hour_31 : decode cX7_hour 31 = .ok (.iconst 4, 1) := by decide +kernel
theorem dX7_hour_32 : decode cX7_hour 32 = .ok (.iaload, 1) := by decide +kernel
theorem dX7_hour_33 : decode cX7_hour 33 = .ok (.if_icmp .ne 7, 3) := by decide +kernel
theorem dX7_hour_36 : decode cX7_hour 36 = .ok (.iconst 0, 1) := by decide +kernel
theorem dX7_hour_37 : decode cX7_hour 37 = .ok (.goto 36, 3) := by decide +kernel
theorem dX7_hour_40 : decode cX7_hour 40 = .ok (.aload_n 0, 1) := by decide +kernel
theorem dX7_hour_41 : decode cX7_hour 41 = .ok (.getfield 7, 3) := by decide +kernel
theorem dX7_hour_44 : decode cX7_hour 44 = .ok (.iload_n 1, 1) := by decide +kernel
theorem dX7_hour_45 : decode cX7_hour 45 = .ok (.iconst 3, 1) := by decide +kernel
theorem dX7_hour_46 : decode cX7_hour 46 = .ok (.invokestatic 35, 3) := by decide +kernel
theorem dX7_hour_49 : decode cX7_hour 49 = .ok (.iaload, 1) := by decide +kernel
theorem dX7_hour_50 : decode cX7_hour 50 = .ok (.aload_n 0, 1) := by decide +kernel
theorem dX7_hour_51 : decode cX7_hour 51 = .ok (.getfield 7, 3) := by decide +kernel
theorem dX7_hour_54 : decode cX7_hour 54 = .ok (.iconst 4, 1) := by decide +kernel
theorem dX7_hour_55 : decode cX7_hour 55 = .ok (.iaload, 1) := by decide +kernel
theorem dX7_hour_56 : decode cX7_hour 56 = .ok (.if_icmp .ne 7, 3) := by decide +kernel
theorem dX7_hour_59 : decode cX7_hour 59 = .ok (.iconst 1, 1) := by decide +kernel
theorem dX7_hour_60 : decode cX7_hour 60 = .ok (.goto 13, 3) := by decide +kernel
theorem dX7_hour_63 : decode cX7_hour 63 = .ok (.aload_n 0, 1) := by decide +kernel
theorem dX7_hour_64 : decode cX7_hour 64 = .ok (.getfield 7, 3) := by decide +kernel
theorem dX7_hour_67 : decode cX7_hour 67 = .ok (.iload_n 1, 1) := by decide +kernel
theorem dX7_hour_68 : decode cX7_hour 68 = .ok (.iconst 0, 1) := by decide +kernel
theorem dX7_hour_69 : decode cX7_hour 69 = .ok (.invokestatic 35, 3) := by decide +kernel
theorem dX7_hour_72 : decode cX7_hour 72 = .ok (.iaload, 1) := by decide +kernel
theorem dX7_hour_73 : decode cX7_hour 73 = .ok (.iastore, 1) := by decide +kernel
theorem dX7_hour_74 : decode cX7_hour 74 = .ok (.iinc 1 1, 3) := by decide +kernel
theorem dX7_hour_77 : decode cX7_hour 77 = .ok (.goto (-75), 3) := by decide +kernel
theorem dX7_hour_80 : decode cX7_hour 80 = .ok (.iconst 0, 1) := by decide +kernel
theorem dX7_hour_81 : decode cX7_hour 81 = .ok (.istore_n 1, 1) := by decide +kernel
theorem dX7_hour_82 : decode cX7_hour 82 = .ok (.iload_n 1, 1) := by decide +kernel
theorem dX7_hour_83 : decode cX7_hour 83 = .ok (.aload_n 0, 1) := by decide +kernel
theorem dX7_hour_84 : decode cX7_hour 84 = .ok (.getfield 7, 3) := by decide +kernel
theorem dX7_hour_87 : decode cX7_hour 87 = .ok (.iconst 5, 1) := by decide +kernel
theorem dX7_hour_88 : decode cX7_hour 88 = .ok (.iaload, 1) := by decide +kernel
theorem dX7_hour_89 : decode cX7_hour 89 = .ok (.if_icmp .ge 75, 3) := by decide +kernel
theorem dX7_hour_92 : decode cX7_hour 92 = .ok (.aload_n 0, 1) := by decide +kernel
theorem dX7_hour_93 : decode cX7_hour 93 = .ok (.getfield 7, 3) := by decide +kernel
theorem dX7_hour_96 : decode cX7_hour 96 = .ok (.iconst 4, 1) := by decide +kernel
theorem dX7_hour_97 : decode cX7_hour 97 = .ok (.iaload, 1) := by decide +kernel
theorem dX7_hour_98 : decode cX7_hour 98 = .ok (.aload_n 0, 1) := by decide +kernel
theorem dX7_hour_99 : decode cX7_hour 99 = .ok (.getfield 7, 3) := by decide +kernel
theorem dX7_hour_102 : decode cX7_hour 102 = .ok (.iconst 0, 1) := by decide +kernel
theorem dX7_hour_103 : decode cX7_hour 103 = .ok (.iaload, 1) := by decide +kernel
theorem dX7_hour_104 : decode cX7_hour 104 = .ok (.if_icmp .ne 60, 3) := by decide +kernel
theorem dX7_hour_107 : decode cX7_hour 107 = .ok (.aload_n 0, 1) := by decide +kernel
theorem dX7_hour_108 : decode cX7_hour 108 = .ok (.iload_n 1, 1) := by decide +kernel
theorem dX7_hour_109 : decode cX7_hour 109 = .ok (.invokevirtual 54, 3) := by decide +kernel
theorem dX7_hour_112 : decode cX7_hour 112 = .ok (.ifCond .eq 46, 3) := by decide +kernel
theorem dX7_hour_115 : decode cX7_hour 115 = .ok (.aload_n 0, 1) := by decide +kernel
theorem dX7_hour_116 : decode cX7_hour 116 = .ok (.getfield 7, 3) := by decide +kernel
theorem dX7_hour_119 : decode cX7_hour 119 = .ok (.iload_n 1, 1) := by decide +kernel
theorem dX7_hour_120 : decode cX7_hour 120 = .ok (.bipush 6, 2) := by decide +kernel
theorem dX7_hour_122 : decode cX7_hour 122 = .ok (.invokestatic 47, 3) := by decide +kernel
theorem dX7_hour_125 : decode cX7_hour 125 = .ok (.aload_n 0, 1) := by decide +kernel
theorem dX7_hour_126 : decode cX7_hour 126 = .ok (.iload_n 1, 1) := by decide +kernel
theorem dX7_hour_127 : decode cX7_hour 127 = .ok (.invokevirtual 50, 3) := by decide +kernel
theorem dX7_hour_130 : decode cX7_hour 130 = .ok (.iastore, 1) := by decide +kernel
theorem dX7_hour_131 : decode cX7_hour 131 = .ok (.aload_n 0, 1) := by decide +kernel
theorem dX7_hour_132 : decode cX7_hour 132 = .ok (.getfield 7, 3) := by decide +kernel
theorem dX7_hour_135 : decode cX7_hour 135 = .ok (.iload_n 1, 1) := by decide +kernel
theorem dX7_hour_136 : decode cX7_hour 136 = .ok (.iconst 4, 1) := by decide +kernel
theorem dX7_hour_137 : decode cX7_hour 137 = .ok (.invokestatic 47, 3) := by decide +kernel
theorem dX7_hour_140 : decode cX7_hour 140 = .ok (.aload_n 0, 1) := by decide +kernel
theorem dX7_hour_141 : decode cX7_hour 141 = .ok (.getfield 7, 3) := by decide +kernel
theorem dX7_hour_144 : decode cX7_hour 144 = .ok (.iconst 3, 1) := by decide +kernel
theorem dX7_hour_145 : decode cX7_hour 145 = .ok (.iaload, 1) := by decide +kernel
theorem dX7_hour_146 : decode cX7_hour 146 = .ok (.iastore, 1) := by decide +kernel
theorem dX7_hour_147 : decode cX7_hour 147 = .ok (.aload_n 0, 1) := by decide +kernel
theorem dX7_hour_148 : decode cX7_hour 148 = .ok (.getfield 7, 3) := by decide +kernel
theorem dX7_hour_151 : decode cX7_hour 151 = .ok (.iload_n 1, 1) := by decide +kernel
theorem dX7_hour_152 : decode cX7_hour 152 = .ok (.iconst 3, 1) := by decide +kernel
theorem dX7_hour_153 : decode cX7_hour 153 = .ok (.invokestatic 47, 3) := by decide +kernel
theorem dX7_hour_156 : decode cX7_hour 156 = .ok (.iconst 1, 1) := by decide +kernel
theorem dX7_hour_157 : decode cX7_hour 157 = .ok (.iastore, 1) := by decide +kernel
theorem dX7_hour_158 : decode cX7_hour 158 = .ok (.iinc 1 1, 3) := by decide +kernel
theorem dX7_hour_161 : decode cX7_hour 161 = .ok (.goto (-79), 3) := by decide +kernel
theorem dX7_hour_164 : decode cX7_hour 164 = .ok (.aload_n 0, 1) := by decide +kernel
theorem dX7_hour_165 : decode cX7_hour 165 = .ok (.getfield 7, 3) := by decide +kernel
theorem dX7_hour_168 : decode cX7_hour 168 = .ok (.iconst 4, 1) := by decide +kernel
theorem dX7_hour_169 : decode cX7_hour 169 = .ok (.dup2, 1) := by decide +kernel
theorem dX7_hour_170 : decode cX7_hour 170 = .ok (.iaload, 1) := by decide +kernel
theorem dX7_hour_171 : decode cX7_hour 171 = .ok (.iconst 1, 1) := by decide +kernel
theorem dX7_hour_172 : decode cX7_hour 172 = .ok (.iadd, 1) := by decide +kernel
theorem dX7_hour_173 : decode cX7_hour 173 = .ok (.iastore, 1) := by decide +kernel
theorem dX7_hour_174 : decode cX7_hour 174 = .ok (.aload_n 0, 1) := by decide +kernel
theorem dX7_hour_175 : decode cX7_hour 175 = .ok (.getfield 7, 3) := by decide +kernel
theorem dX7_hour_178 : decode cX7_hour 178 = .ok (.iconst 4, 1) := by decide +kernel
theorem dX7_hour_179 : decode cX7_hour 179 = .ok (.iaload, 1) := by decide +kernel
theorem dX7_hour_180 : decode cX7_hour 180 = .ok (.bipush 24, 2) := by decide +kernel
theorem dX7_hour_182 : decode cX7_hour 182 = .ok (.if_icmp .ne 20, 3) := by decide +kernel
theorem dX7_hour_185 : decode cX7_hour 185 = .ok (.aload_n 0, 1) := by decide +kernel
theorem dX7_hour_186 : decode cX7_hour 186 = .ok (.getfield 7, 3) := by decide +kernel
theorem dX7_hour_189 : decode cX7_hour 189 = .ok (.iconst 4, 1) := by decide +kernel
theorem dX7_hour_190 : decode cX7_hour 190 = .ok (.iconst 0, 1) := by decide +kernel
theorem dX7_hour_191 : decode cX7_hour 191 = .ok (.iastore, 1) := by decide +kernel
theorem dX7_hour_192 : decode cX7_hour 192 = .ok (.aload_n 0, 1) := by decide +kernel
theorem dX7_hour_193 : decode cX7_hour 193 = .ok (.getfield 7, 3) := by decide +kernel
theorem dX7_hour_196 : decode cX7_hour 196 = .ok (.iconst 3, 1) := by decide +kernel
theorem dX7_hour_197 : decode cX7_hour 197 = .ok (.dup2, 1) := by decide +kernel
theorem dX7_hour_198 : decode cX7_hour 198 = .ok (.iaload, 1) := by decide +kernel
theorem dX7_hour_199 : decode cX7_hour 199 = .ok (.iconst 1, 1) := by decide +kernel
theorem dX7_hour_200 : decode cX7_hour 200 = .ok (.iadd, 1) := by decide +kernel
theorem dX7_hour_201 : decode cX7_hour 201 = .ok (.iastore, 1) := by decide +kernel
theorem dX7_hour_202 : decode cX7_hour 202 = .ok (.return_, 1) := by decide +kernel
set_option maxRecDepth 20000 in
theorem ggX7_findRegrets_X7_ofL : GoodIn wsX7_findRegrets wsX7_ofL := goodIn_r _ [7] (by decide +kernel) (by decide +kernel)
set_option maxRecDepth 20000 in
theorem gX7_findRegrets_X7_ofL : GoodIn wsX7_findRegrets (va_wsS RX7 47 yX7_ofL wsX7_ofL) := goodIn_app (goodIn_of _ (by decide +kernel)) ggX7_findRegrets_X7_ofL
set_option maxRecDepth 20000 in
theorem ggX7_findRegrets_X7_heat : GoodIn wsX7_findRegrets wsX7_heat := goodIn_r _ [11, 3, 4, 5, 6, 7, 12, 13, 14, 15, 16, 17, 18, 19, 20, 21, 22, 23, 24, 25, 26, 27] (by decide +kernel) (by decide +kernel)
set_option maxRecDepth 20000 in
theorem gX7_findRegrets_X7_heat : GoodIn wsX7_findRegrets (wsV RX7 50 RX7 yX7_heat wsX7_heat) := goodIn_app (goodIn_of _ (by decide +kernel)) ggX7_findRegrets_X7_heat
theorem dX7_findRegrets_0 : decode cX7_findRegrets 0 = .ok (.iconst 0, 1) := by decide +kernel
theorem dX7_findRegrets_1 : decode cX7_findRegrets 1 = .ok (.istore_n 1, 1) := by decide +kernel
theorem dX7_findRegrets_2 : decode cX7_findRegrets 2 = .ok (.iload_n 1, 1) := by decide +kernel
theorem dX7_findRegrets_3 : decode cX7_findRegrets 3 = .ok (.bipush 30, 2) := by decide +kernel
theorem dX7_findRegrets_5 : decode cX7_findRegrets 5 = .ok (.if_icmp .ge 23, 3) := by decide +kernel
theorem dX7_findRegrets_8 : decode cX7_findRegrets 8 = .ok (.aload_n 0, 1) := by decide +kernel
theorem dX7_findRegrets_9 : decode cX7_findRegrets 9 = .ok (.getfield 32, 3) := by decide +kernel
theorem dX7_findRegrets_12 : decode cX7_findRegrets 12 = .ok (.iload_n 1, 1) := by decide +kernel
theorem dX7_findRegrets_13 : decode cX7_findRegrets 13 = .ok (.iconst 0, 1) := by decide +kernel
theorem dX7_findRegrets_14 : decode cX7_findRegrets 14 = .ok (.iastore, 1) := by decide +kernel
theorem dX7_findRegrets_15 : decode cX7_findRegrets 15 = .ok (.aload_n 0, 1) := by decide +kernel
theorem dX7_findRegrets_16 : decode cX7_findRegrets 16 = .ok (.getfield 29, 3) := by decide +kernel
theorem dX7_findRegrets_19 : decode cX7_findRegrets 19 = .ok (.iload_n 1, 1) := by decide +kernel
theorem dX7_findRegrets_20 : decode cX7_findRegrets 20 = .ok (.iconst 0, 1) := by decide +kernel
theorem dX7_findRegrets_21 : decode cX7_findRegrets 21 = .ok (.iastore, 1) := by decide +kernel
theorem dX7_findRegrets_22 : decode cX7_findRegrets 22 = .ok (.iinc 1 1, 3) := by decide +kernel
theorem dX7_findRegrets_25 : decode cX7_findRegrets 25 = .ok (.goto (-23), 3) := by decide +kernel
theorem dX7_findRegrets_28 : decode cX7_findRegrets 28 = .ok (.aload_n 0, 1) := by decide +kernel
theorem dX7_findRegrets_29 : decode cX7_findRegrets 29 = .ok (.getfield 7, 3) := by decide +kernel
theorem dX7_findRegrets_32 : decode cX7_findRegrets 32 = .ok (.iconst 5, 1) := by decide +kernel
theorem dX7_findRegrets_33 : decode cX7_findRegrets 33 = .ok (.iaload, 1) := by decide +kernel
theorem dX7_findRegrets_34 : decode cX7_findRegrets 34 = .ok (.iconst 1, 1) := by decide +kernel
theorem dX7_findRegrets_35 : decode cX7_findRegrets 35 = .ok (.isub, 1) := by decide +kernel
theorem dX7_findRegrets_36 : decode cX7_findRegrets 36 = .ok (.istore_n 1, 1) := by decide +kernel
theorem dX7_findRegrets_37 : decode cX7_findRegrets 37 = .ok (.iload_n 1, 1) := by decide +kernel
theorem dX7_findRegrets_38 : decode cX7_findRegrets 38 = .ok (.ifCond .lt 100, 3) := by decide +kernel
theorem dX7_findRegrets_41 : decode cX7_findRegrets 41 = .ok (.aload_n 0, 1) := by decide +kernel
theorem dX7_findRegrets_42 : decode cX7_findRegrets 42 = .ok (.getfield 29, 3) := by decide +kernel
theorem dX7_findRegrets_45 : decode cX7_findRegrets 45 = .ok (.iload_n 1, 1) := by decide +kernel
theorem dX7_findRegrets_46 : decode cX7_findRegrets 46 = .ok (.aload_n 0, 1) := by decide +kernel
theorem dX7_findRegrets_47 : decode cX7_findRegrets 47 = .ok (.getfield 7, 3) := by decide +kernel
theorem dX7_findRegrets_50 : decode cX7_findRegrets 50 = .ok (.iload_n 1, 1) := by decide +kernel
theorem dX7_findRegrets_51 : decode cX7_findRegrets 51 = .ok (.iconst 3, 1) := by decide +kernel
theorem dX7_findRegrets_52 : decode cX7_findRegrets 52 = .ok (.invokestatic 47, 3) := by decide +kernel
theorem dX7_findRegrets_55 : decode cX7_findRegrets 55 = .ok (.iaload, 1) := by decide +kernel
theorem dX7_findRegrets_56 : decode cX7_findRegrets 56 = .ok (.iconst 1, 1) := by decide +kernel
theorem dX7_findRegrets_57 : decode cX7_findRegrets 57 = .ok (.if_icmp .ne 20, 3) := by decide +kernel
theorem dX7_findRegrets_60 : decode cX7_findRegrets 60 = .ok (.aload_n 0, 1) := by decide +kernel
theorem dX7_findRegrets_61 : decode cX7_findRegrets 61 = .ok (.iload_n 1, 1) := by decide +kernel
theorem dX7_findRegrets_62 : decode cX7_findRegrets 62 = .ok (.invokevirtual 50, 3) := by decide +kernel
theorem dX7_findRegrets_65 : decode cX7_findRegrets 65 = .ok (.aload_n 0, 1) := by decide +kernel
theorem dX7_findRegrets_66 : decode cX7_findRegrets 66 = .ok (.getfield 32, 3) := by decide +kernel
theorem dX7_findRegrets_69 : decode cX7_findRegrets 69 = .ok (.iload_n 1, 1) := by decide +kernel
theorem dX7_findRegrets_70 : decode cX7_findRegrets 70 = .ok (.iaload, 1) := by decide +kernel
theorem dX7_findRegrets_71 : decode cX7_findRegrets 71 = .ok (.iconst 2, 1) := by decide +kernel
theorem dX7_findRegrets_72 : decode cX7_findRegrets 72 = .ok (.idiv, 1) := by decide +kernel
theorem dX7_findRegrets_73 : decode cX7_findRegrets 73 = .ok (.iadd, 1) := by decide +kernel
theorem dX7_findRegrets_74 : decode cX7_findRegrets 74 = .ok (.goto 4, 3) := by decide +kernel
theorem dX7_findRegrets_77 : decode cX7_findRegrets 77 = .ok (.iconst 0, 1) := by decide +kernel
theorem dX7_findRegrets_78 : decode cX7_findRegrets 78 = .ok (.iastore, 1) := by decide +kernel
theorem dX7_findRegrets_79 : decode cX7_findRegrets 79 = .ok (.aload_n 0, 1) := by decide +kernel
theorem dX7_findRegrets_80 : decode cX7_findRegrets 80 = .ok (.getfield 7, 3) := by decide +kernel
theorem dX7_findRegrets_83 : decode cX7_findRegrets 83 = .ok (.iload_n 1, 1) := by decide +kernel
theorem dX7_findRegrets_84 : decode cX7_findRegrets 84 = .ok (.iconst 5, 1) := by decide +kernel
theorem dX7_findRegrets_85 : decode cX7_findRegrets 85 = .ok (.invokestatic 47, 3) := by decide +kernel
theorem dX7_findRegrets_88 : decode cX7_findRegrets 88 = .ok (.iaload, 1) := by decide +kernel
theorem dX7_findRegrets_89 : decode cX7_findRegrets 89 = .ok (.istore_n 2, 1) := by decide +kernel
theorem dX7_findRegrets_90 : decode cX7_findRegrets 90 = .ok (.iload_n 2, 1) := by decide +kernel
theorem dX7_findRegrets_91 : decode cX7_findRegrets 91 = .ok (.bipush (-6), 2) := by decide +kernel
theorem dX7_findRegrets_93 : decode cX7_findRegrets 93 = .ok (.if_icmp .eq 39, 3) := by decide +kernel
theorem dX7_findRegrets_96 : decode cX7_findRegrets 96 = .ok (.aload_n 0, 1) := by decide +kernel
theorem dX7_findRegrets_97 : decode cX7_findRegrets 97 = .ok (.getfield 32, 3) := by decide +kernel
theorem dX7_findRegrets_100 : decode cX7_findRegrets 100 = .ok (.iload_n 2, 1) := by decide +kernel
theorem dX7_findRegrets_101 : decode cX7_findRegrets 101 = .ok (.aload_n 0, 1) := by decide +kernel
theorem dX7_findRegrets_102 : decode cX7_findRegrets 102 = .ok (.getfield 29, 3) := by decide +kernel
theorem dX7_findRegrets_105 : decode cX7_findRegrets 105 = .ok (.iload_n 1, 1) := by decide +kernel
theorem dX7_findRegrets_106 : decode cX7_findRegrets 106 = .ok (.iaload, 1) := by decide +kernel
theorem dX7_findRegrets_107 : decode cX7_findRegrets 107 = .ok (.aload_n 0, 1) := by decide +kernel
theorem dX7_findRegrets_108 : decode cX7_findRegrets 108 = .ok (.getfield 32, 3) := by decide +kernel
theorem dX7_findRegrets_111 : decode cX7_findRegrets 111 = .ok (.iload_n 2, 1) := by decide +kernel
theorem dX7_findRegrets_112 : decode cX7_findRegrets 112 = .ok (.iaload, 1) := by decide +kernel
theorem dX7_findRegrets_113 : decode cX7_findRegrets 113 = .ok (.if_icmp .le 12, 3) := by decide +kernel
theorem dX7_findRegrets_116 : decode cX7_findRegrets 116 = .ok (.aload_n 0, 1) := by decide +kernel
theorem dX7_findRegrets_117 : decode cX7_findRegrets 117 = .ok (.getfield 29, 3) := by decide +kernel
theorem dX7_findRegrets_120 : decode cX7_findRegrets 120 = .ok (.iload_n 1, 1) := by decide +kernel
theorem dX7_findRegrets_121 : decode cX7_findRegrets 121 = .ok (.iaload, 1) := by decide +kernel
theorem dX7_findRegrets_122 : decode cX7_findRegrets 122 = .ok (.goto 9, 3) := by decide +kernel
theorem dX7_findRegrets_125 : decode cX7_findRegrets 125 = .ok (.aload_n 0, 1) := by decide +kernel
theorem dX7_findRegrets_126 : decode cX7_findRegrets 126 = .ok (.getfield 32, 3) := by decide +kernel
theorem dX7_findRegrets_129 : decode cX7_findRegrets 129 = .ok (.iload_n 2, 1) := by decide +kernel
theorem dX7_findRegrets_130 : decode cX7_findRegrets 130 = .ok (.iaload, 1) := by decide +kernel
theorem dX7_findRegrets_131 : decode cX7_findRegrets 131 = .ok (.iastore, 1) := by decide +kernel
theorem dX7_findRegrets_132 : decode cX7_findRegrets 132 = .ok (.iinc 1 (-1), 3) := by decide +kernel
theorem dX7_findRegrets_135 : decode cX7_findRegrets 135 = .ok (.goto (-98), 3) := by decide +kernel
theorem dX7_findRegrets_138 : decode cX7_findRegrets 138 = .ok (.return_, 1) := by decide +kernel
set_option maxRecDepth 20000 in
theorem ggX7_writeFault_X7_isMood : GoodIn wsX7_writeFault wsX7_isMood := goodIn_r _ [5, 6, 7, 4, 8] (by decide +kernel) (by decide +kernel)
set_option maxRecDepth 20000 in
theorem gX7_writeFault_X7_isMood : GoodIn wsX7_writeFault (va_wsS RX7 58 yX7_isMood wsX7_isMood) := goodIn_app (goodIn_of _ (by decide +kernel)) ggX7_writeFault_X7_isMood
set_option maxRecDepth 20000 in
theorem ggX7_writeFault_X7_isLetter : GoodIn wsX7_writeFault wsX7_isLetter := goodIn_r _ [12, 1, 6, 7, 4, 8, 20, 21, 22, 23, 24, 25, 26, 27, 28, 29, 30, 31, 32, 33, 34, 35] (by decide +kernel) (by decide +kernel)
set_option maxRecDepth 20000 in
theorem gX7_writeFault_X7_isLetter : GoodIn wsX7_writeFault (wsV RX7 61 RX7 yX7_isLetter wsX7_isLetter) := goodIn_app (goodIn_of _ (by decide +kernel)) ggX7_writeFault_X7_isLetter
set_option maxRecDepth 20000 in
theorem ggX7_writeFault_X7_in : GoodIn wsX7_writeFault wsX7_in := goodIn_r _ [8] (by decide +kernel) (by decide +kernel)
set_option maxRecDepth 20000 in
theorem gX7_writeFault_X7_in : GoodIn wsX7_writeFault (va_wsS RX7 39 yX7_in wsX7_in) := goodIn_app (goodIn_of _ (by decide +kernel)) ggX7_writeFault_X7_in
set_option maxRecDepth 20000 in
theorem ggX7_writeFault_X7_many : GoodIn wsX7_writeFault wsX7_many := goodIn_r _ [16, 1, 17, 18, 4, 19, 20, 21, 22, 23, 24, 25, 26, 27, 28, 29, 30, 31, 32, 33, 34, 35] (by decide +kernel) (by decide +kernel)
set_option maxRecDepth 20000 in
theorem gX7_writeFault_X7_many : GoodIn wsX7_writeFault (wsV RX7 64 RX7 yX7_many wsX7_many) := goodIn_app (goodIn_of _ (by decide +kernel)) ggX7_writeFault_X7_many
set_option maxRecDepth 20000 in
theorem ggX7_writeFault_X7_ofL : GoodIn wsX7_writeFault wsX7_ofL := goodIn_r _ [19] (by decide +kernel) (by decide +kernel)
set_option maxRecDepth 20000 in
theorem gX7_writeFault_X7_ofL : GoodIn wsX7_writeFault (va_wsS RX7 47 yX7_ofL wsX7_ofL) := goodIn_app (goodIn_of _ (by decide +kernel)) ggX7_writeFault_X7_ofL
theorem dX7_writeFault_0 : decode cX7_writeFault 0 = .ok (.iload_n 1, 1) := by decide +kernel
theorem dX7_writeFault_1 : decode cX7_writeFault 1 = .ok (.invokestatic 58, 3) := by decide +kernel
theorem dX7_writeFault_4 : decode cX7_writeFault 4 = .ok (.ifCond .eq 17, 3) := by decide +kernel
theorem dX7_writeFault_7 : decode cX7_writeFault 7 = .ok (.iload_n 3, 1) := by decide +kernel
theorem dX7_writeFault_8 : decode cX7_writeFault 8 = .ok (.bipush (-6), 2) := by decide +kernel
theorem dX7_writeFault_10 : decode cX7_writeFault 10 = .ok (.if_icmp .eq 13, 3) := by decide +kernel
theorem dX7_writeFault_13 : decode cX7_writeFault 13 = .ok (.aload_n 0, 1) := by decide +kernel
theorem dX7_writeFault_14 : decode cX7_writeFault 14 = .ok (.iload_n 3, 1) := by decide +kernel
theorem dX7_writeFault_15 : decode cX7_writeFault 15 = .ok (.invokevirtual 61, 3) := by decide +kernel
theorem dX7_writeFault_18 : decode cX7_writeFault 18 = .ok (.ifCond .ne 5, 3) := by decide +kernel
theorem dX7_writeFault_21 : decode cX7_writeFault 21 = .ok (.iconst (-1), 1) := by decide +kernel
theorem dX7_writeFault_22 : decode cX7_writeFault 22 = .ok (.ireturn, 1) := by decide +kernel
theorem dX7_writeFault_23 : decode cX7_writeFault 23 = .ok (.iload_n 2, 1) := by decide +kernel
theorem dX7_writeFault_24 : decode cX7_writeFault 24 = .ok (.iconst 0, 1) := by decide +kernel
theorem dX7_writeFault_25 : decode cX7_writeFault 25 = .ok (.bipush 99, 2) := by decide +kernel
theorem dX7_writeFault_27 : decode cX7_writeFault 27 = .ok (.invokestatic 39, 3) := by decide +kernel
theorem dX7_writeFault_30 : decode cX7_writeFault 30 = .ok (.ifCond .ne 6, 3) := by decide +kernel
theorem dX7_writeFault_33 : decode cX7_writeFault 33 = .ok (.bipush (-2), 2) := by decide +kernel
theorem dX7_writeFault_35 : decode cX7_writeFault 35 = .ok (.ireturn, 1) := by decide +kernel
theorem dX7_writeFault_36 : decode cX7_writeFault 36 = .ok (.aload_n 0, 1) := by decide +kernel
theorem dX7_writeFault_37 : decode cX7_writeFault 37 = .ok (.getfield 7, 3) := by decide +kernel
theorem dX7_writeFault_40 : decode cX7_writeFault 40 = .ok (.iconst 5, 1) := by decide +kernel
theorem dX7_writeFault_41 : decode cX7_writeFault 41 = .ok (.iaload, 1) := by decide +kernel
theorem dX7_writeFault_42 : decode cX7_writeFault 42 = .ok (.bipush 30, 2) := by decide +kernel
theorem dX7_writeFault_44 : decode cX7_writeFault 44 = .ok (.if_icmp .eq 14, 3) := by decide +kernel
theorem dX7_writeFault_47 : decode cX7_writeFault 47 = .ok (.aload_n 0, 1) := by decide +kernel
theorem dX7_writeFault_48 : decode cX7_writeFault 48 = .ok (.iload_n 1, 1) := by decide +kernel
theorem dX7_writeFault_49 : decode cX7_writeFault 49 = .ok (.iconst 0, 1) := by decide +kernel
theorem dX7_writeFault_50 : decode cX7_writeFault 50 = .ok (.invokevirtual 64, 3) := by decide +kernel
theorem dX7_writeFault_53 : decode cX7_writeFault 53 = .ok (.bipush 8, 2) := by decide +kernel
theorem dX7_writeFault_55 : decode cX7_writeFault 55 = .ok (.if_icmp .ne 6, 3) := by decide +kernel
theorem dX7_writeFault_58 : decode cX7_writeFault 58 = .ok (.bipush (-4), 2) := by decide +kernel
theorem dX7_writeFault_60 : decode cX7_writeFault 60 = .ok (.ireturn, 1) := by decide +kernel
theorem dX7_writeFault_61 : decode cX7_writeFault 61 = .ok (.iload_n 3, 1) := by decide +kernel
theorem dX7_writeFault_62 : decode cX7_writeFault 62 = .ok (.bipush (-6), 2) := by decide +kernel
theorem dX7_writeFault_64 : decode cX7_writeFault 64 = .ok (.if_icmp .eq 22, 3) := by decide +kernel
theorem dX7_writeFault_67 : decode cX7_writeFault 67 = .ok (.aload_n 0, 1) := by decide +kernel
theorem dX7_writeFault_68 : decode cX7_writeFault 68 = .ok (.getfield 7, 3) := by decide +kernel
theorem dX7_writeFault_71 : decode cX7_writeFault 71 = .ok (.iload_n 3, 1) := by decide +kernel
theorem dX7_writeFault_72 : decode cX7_writeFault 72 = .ok (.iconst 3, 1) := by decide +kernel
theorem dX7_writeFault_73 : decode cX7_writeFault 73 = .ok (.invokestatic 47, 3) := by decide +kernel
theorem dX7_writeFault_76 : decode cX7_writeFault 76 = .ok (.iaload, 1) := by decide +kernel
theorem dX7_writeFault_77 : decode cX7_writeFault 77 = .ok (.iconst 1, 1) := by decide +kernel
theorem dX7_writeFault_78 : decode cX7_writeFault 78 = .ok (.if_icmp .eq 8, 3) := by decide +kernel
theorem dX7_writeFault_81 : decode cX7_writeFault 81 = .ok (.bipush (-5), 2) := by decide +kernel
theorem dX7_writeFault_83 : decode cX7_writeFault 83 = .ok (.goto 4, 3) := by decide +kernel
theorem dX7_writeFault_86 : decode cX7_writeFault 86 = .ok (.iconst 0, 1) := by decide +kernel
theorem dX7_writeFault_87 : decode cX7_writeFault 87 = .ok (.ireturn, 1) := by decide +kernel
set_option maxRecDepth 20000 in
theorem ggX7_writes_X7_ofL : GoodIn wsX7_writes wsX7_ofL := goodIn_r _ [5] (by decide +kernel) (by decide +kernel)
set_option maxRecDepth 20000 in
theorem gX7_writes_X7_ofL : GoodIn wsX7_writes (va_wsS RX7 47 yX7_ofL wsX7_ofL) := goodIn_app (goodIn_of _ (by decide +kernel)) ggX7_writes_X7_ofL
theorem dX7_writes_0 : decode cX7_writes 0 = .ok (.aload_n 0, 1) := by decide +kernel
theorem dX7_writes_1 : decode cX7_writes 1 = .ok (.getfield 7, 3) := by decide +kernel
theorem dX7_writes_4 : decode cX7_writes 4 = .ok (.iconst 5, 1) := by decide +kernel
theorem dX7_writes_5 : decode cX7_writes 5 = .ok (.iaload, 1) := by decide +kernel
theorem dX7_writes_6 : decode cX7_writes 6 = .ok (.istore 4, 2) := by decide +kernel
theorem dX7_writes_8 : decode cX7_writes 8 = .ok (.aload_n 0, 1) := by decide +kernel
theorem dX7_writes_9 : decode cX7_writes 9 = .ok (.getfield 7, 3) := by decide +kernel
theorem dX7_writes_12 : decode cX7_writes 12 = .ok (.iload 4, 2) := by decide +kernel
theorem dX7_writes_14 : decode cX7_writes 14 = .ok (.iconst 0, 1) := by decide +kernel
theorem dX7_writes_15 : decode cX7_writes 15 = .ok (.invokestatic 47, 3) := by decide +kernel
theorem dX7_writes_18 : decode cX7_writes 18 = .ok (.iload_n 1, 1) := by decide +kernel
theorem dX7_writes_19 : decode cX7_writes 19 = .ok (.iastore, 1) := by decide +kernel
theorem dX7_writes_20 : decode cX7_writes 20 = .ok (.aload_n 0, 1) := by decide +kernel
theorem dX7_writes_21 : decode cX7_writes 21 = .ok (.getfield 7, 3) := by decide +kernel
theorem dX7_writes_24 : decode cX7_writes 24 = .ok (.iload 4, 2) := by decide +kernel
theorem dX7_writes_26 : decode cX7_writes 26 = .ok (.iconst 1, 1) := by decide +kernel
theorem dX7_writes_27 : decode cX7_writes 27 = .ok (.invokestatic 47, 3) := by decide +kernel
theorem dX7_writes_30 : decode cX7_writes 30 = .ok (.iload_n 2, 1) := by decide +kernel
theorem dX7_writes_31 : decode cX7_writes 31 = .ok (.iastore, 1) := by decide +kernel
theorem dX7_writes_32 : decode cX7_writes 32 = .ok (.aload_n 0, 1) := by decide +kernel
theorem dX7_writes_33 : decode cX7_writes 33 = .ok (.getfield 7, 3) := by decide +kernel
theorem dX7_writes_36 : decode cX7_writes 36 = .ok (.iload 4, 2) := by decide +kernel
theorem dX7_writes_38 : decode cX7_writes 38 = .ok (.iconst 2, 1) := by decide +kernel
theorem dX7_writes_39 : decode cX7_writes 39 = .ok (.invokestatic 47, 3) := by decide +kernel
theorem dX7_writes_42 : decode cX7_writes 42 = .ok (.aload_n 0, 1) := by decide +kernel
theorem dX7_writes_43 : decode cX7_writes 43 = .ok (.getfield 7, 3) := by decide +kernel
theorem dX7_writes_46 : decode cX7_writes 46 = .ok (.iconst 3, 1) := by decide +kernel
theorem dX7_writes_47 : decode cX7_writes 47 = .ok (.iaload, 1) := by decide +kernel
theorem dX7_writes_48 : decode cX7_writes 48 = .ok (.iastore, 1) := by decide +kernel
theorem dX7_writes_49 : decode cX7_writes 49 = .ok (.aload_n 0, 1) := by decide +kernel
theorem dX7_writes_50 : decode cX7_writes 50 = .ok (.getfield 7, 3) := by decide +kernel
theorem dX7_writes_53 : decode cX7_writes 53 = .ok (.iload 4, 2) := by decide +kernel
theorem dX7_writes_55 : decode cX7_writes 55 = .ok (.iconst 3, 1) := by decide +kernel
theorem dX7_writes_56 : decode cX7_writes 56 = .ok (.invokestatic 47, 3) := by decide +kernel
theorem dX7_writes_59 : decode cX7_writes 59 = .ok (.iconst 0, 1) := by decide +kernel
theorem dX7_writes_60 : decode cX7_writes 60 = .ok (.iastore, 1) := by decide +kernel
theorem dX7_writes_61 : decode cX7_writes 61 = .ok (.aload_n 0, 1) := by decide +kernel
theorem dX7_writes_62 : decode cX7_writes 62 = .ok (.getfield 7, 3) := by decide +kernel
theorem dX7_writes_65 : decode cX7_writes 65 = .ok (.iload 4, 2) := by decide +kernel
theorem dX7_writes_67 : decode cX7_writes 67 = .ok (.iconst 4, 1) := by decide +kernel
theorem dX7_writes_68 : decode cX7_writes 68 = .ok (.invokestatic 47, 3) := by decide +kernel
theorem dX7_writes_71 : decode cX7_writes 71 = .ok (.bipush (-6), 2) := by decide +kernel
theorem dX7_writes_73 : decode cX7_writes 73 = .ok (.iastore, 1) := by decide +kernel
theorem dX7_writes_74 : decode cX7_writes 74 = .ok (.aload_n 0, 1) := by decide +kernel
theorem dX7_writes_75 : decode cX7_writes 75 = .ok (.getfield 7, 3) := by decide +kernel
theorem dX7_writes_78 : decode cX7_writes 78 = .ok (.iload 4, 2) := by decide +kernel
theorem dX7_writes_80 : decode cX7_writes 80 = .ok (.iconst 5, 1) := by decide +kernel
theorem dX7_writes_81 : decode cX7_writes 81 = .ok (.invokestatic 47, 3) := by decide +kernel
theorem dX7_writes_84 : decode cX7_writes 84 = .ok (.iload_n 3, 1) := by decide +kernel
theorem dX7_writes_85 : decode cX7_writes 85 = .ok (.iastore, 1) := by decide +kernel
theorem dX7_writes_86 : decode cX7_writes 86 = .ok (.aload_n 0, 1) := by decide +kernel
theorem dX7_writes_87 : decode cX7_writes 87 = .ok (.getfield 7, 3) := by decide +kernel
theorem dX7_writes_90 : decode cX7_writes 90 = .ok (.iload 4, 2) := by decide +kernel
theorem dX7_writes_92 : decode cX7_writes 92 = .ok (.bipush 6, 2) := by decide +kernel
theorem dX7_writes_94 : decode cX7_writes 94 = .ok (.invokestatic 47, 3) := by decide +kernel
theorem dX7_writes_97 : decode cX7_writes 97 = .ok (.iconst 0, 1) := by decide +kernel
theorem dX7_writes_98 : decode cX7_writes 98 = .ok (.iastore, 1) := by decide +kernel
theorem dX7_writes_99 : decode cX7_writes 99 = .ok (.aload_n 0, 1) := by decide +kernel
theorem dX7_writes_100 : decode cX7_writes 100 = .ok (.getfield 7, 3) := by decide +kernel
theorem dX7_writes_103 : decode cX7_writes 103 = .ok (.iconst 5, 1) := by decide +kernel
theorem dX7_writes_104 : decode cX7_writes 104 = .ok (.dup2, 1) := by decide +kernel
theorem dX7_writes_105 : decode cX7_writes 105 = .ok (.iaload, 1) := by decide +kernel
theorem dX7_writes_106 : decode cX7_writes 106 = .ok (.iconst 1, 1) := by decide +kernel
theorem dX7_writes_107 : decode cX7_writes 107 = .ok (.iadd, 1) := by decide +kernel
theorem dX7_writes_108 : decode cX7_writes 108 = .ok (.iastore, 1) := by decide +kernel
theorem dX7_writes_109 : decode cX7_writes 109 = .ok (.iload 4, 2) := by decide +kernel
theorem dX7_writes_111 : decode cX7_writes 111 = .ok (.ireturn, 1) := by decide +kernel
set_option maxRecDepth 20000 in
theorem ggX7_turns_X7_ofD : GoodIn wsX7_turns wsX7_ofD := goodIn_r _ [5] (by decide +kernel) (by decide +kernel)
set_option maxRecDepth 20000 in
theorem gX7_turns_X7_ofD : GoodIn wsX7_turns (va_wsS RX7 35 yX7_ofD wsX7_ofD) := goodIn_app (goodIn_of _ (by decide +kernel)) ggX7_turns_X7_ofD
theorem dX7_turns_0 : decode cX7_turns 0 = .ok (.aload_n 0, 1) := by decide +kernel
theorem dX7_turns_1 : decode cX7_turns 1 = .ok (.getfield 7, 3) := by decide +kernel
theorem dX7_turns_4 : decode cX7_turns 4 = .ok (.iload_n 1, 1) := by decide +kernel
theorem dX7_turns_5 : decode cX7_turns 5 = .ok (.iconst 0, 1) := by decide +kernel
theorem dX7_turns_6 : decode cX7_turns 6 = .ok (.invokestatic 35, 3) := by decide +kernel
theorem dX7_turns_9 : decode cX7_turns 9 = .ok (.iconst 1, 1) := by decide +kernel
theorem dX7_turns_10 : decode cX7_turns 10 = .ok (.aload_n 0, 1) := by decide +kernel
theorem dX7_turns_11 : decode cX7_turns 11 = .ok (.getfield 7, 3) := by decide +kernel
theorem dX7_turns_14 : decode cX7_turns 14 = .ok (.iload_n 1, 1) := by decide +kernel
theorem dX7_turns_15 : decode cX7_turns 15 = .ok (.iconst 0, 1) := by decide +kernel
theorem dX7_turns_16 : decode cX7_turns 16 = .ok (.invokestatic 35, 3) := by decide +kernel
theorem dX7_turns_19 : decode cX7_turns 19 = .ok (.iaload, 1) := by decide +kernel
theorem dX7_turns_20 : decode cX7_turns 20 = .ok (.isub, 1) := by decide +kernel
theorem dX7_turns_21 : decode cX7_turns 21 = .ok (.iastore, 1) := by decide +kernel
theorem dX7_turns_22 : decode cX7_turns 22 = .ok (.aload_n 0, 1) := by decide +kernel
theorem dX7_turns_23 : decode cX7_turns 23 = .ok (.getfield 7, 3) := by decide +kernel
theorem dX7_turns_26 : decode cX7_turns 26 = .ok (.iload_n 1, 1) := by decide +kernel
theorem dX7_turns_27 : decode cX7_turns 27 = .ok (.iconst 0, 1) := by decide +kernel
theorem dX7_turns_28 : decode cX7_turns 28 = .ok (.invokestatic 35, 3) := by decide +kernel
theorem dX7_turns_31 : decode cX7_turns 31 = .ok (.iaload, 1) := by decide +kernel
theorem dX7_turns_32 : decode cX7_turns 32 = .ok (.ireturn, 1) := by decide +kernel
set_option maxRecDepth 20000 in
theorem ggX7_hoursFault_X7_isMood : GoodIn wsX7_hoursFault wsX7_isMood := goodIn_r _ [4, 5, 6, 3, 7] (by decide +kernel) (by decide +kernel)
set_option maxRecDepth 20000 in
theorem gX7_hoursFault_X7_isMood : GoodIn wsX7_hoursFault (va_wsS RX7 58 yX7_isMood wsX7_isMood) := goodIn_app (goodIn_of _ (by decide +kernel)) ggX7_hoursFault_X7_isMood
set_option maxRecDepth 20000 in
theorem ggX7_hoursFault_X7_in : GoodIn wsX7_hoursFault wsX7_in := goodIn_r _ [7] (by decide +kernel) (by decide +kernel)
set_option maxRecDepth 20000 in
theorem gX7_hoursFault_X7_in : GoodIn wsX7_hoursFault (va_wsS RX7 39 yX7_in wsX7_in) := goodIn_app (goodIn_of _ (by decide +kernel)) ggX7_hoursFault_X7_in
theorem dX7_hoursFault_0 : decode cX7_hoursFault 0 = .ok (.iload_n 1, 1) := by decide +kernel
theorem dX7_hoursFault_1 : decode cX7_hoursFault 1 = .ok (.invokestatic 58, 3) := by decide +kernel
theorem dX7_hoursFault_4 : decode cX7_hoursFault 4 = .ok (.ifCond .ne 5, 3) := by decide +kernel
theorem dX7_hoursFault_7 : decode cX7_hoursFault 7 = .ok (.iconst (-1), 1) := by decide +kernel
theorem dX7_hoursFault_8 : decode cX7_hoursFault 8 = .ok (.ireturn, 1) := by decide +kernel
theorem dX7_hoursFault_9 : decode cX7_hoursFault 9 = .ok (.iload_n 2, 1) := by decide +kernel
theorem dX7_hoursFault_10 : decode cX7_hoursFault 10 = .ok (.bipush (-6), 2) := by decide +kernel
theorem dX7_hoursFault_12 : decode cX7_hoursFault 12 = .ok (.if_icmp .eq 28, 3) := by decide +kernel
theorem dX7_hoursFault_15 : decode cX7_hoursFault 15 = .ok (.iload_n 2, 1) := by decide +kernel
theorem dX7_hoursFault_16 : decode cX7_hoursFault 16 = .ok (.iconst 0, 1) := by decide +kernel
theorem dX7_hoursFault_17 : decode cX7_hoursFault 17 = .ok (.bipush 23, 2) := by decide +kernel
theorem dX7_hoursFault_19 : decode cX7_hoursFault 19 = .ok (.invokestatic 39, 3) := by decide +kernel
theorem dX7_hoursFault_22 : decode cX7_hoursFault 22 = .ok (.ifCond .eq 22, 3) := by decide +kernel
theorem dX7_hoursFault_25 : decode cX7_hoursFault 25 = .ok (.iload_n 3, 1) := by decide +kernel
theorem dX7_hoursFault_26 : decode cX7_hoursFault 26 = .ok (.iconst 0, 1) := by decide +kernel
theorem dX7_hoursFault_27 : decode cX7_hoursFault 27 = .ok (.bipush 23, 2) := by decide +kernel
theorem dX7_hoursFault_29 : decode cX7_hoursFault 29 = .ok (.invokestatic 39, 3) := by decide +kernel
theorem dX7_hoursFault_32 : decode cX7_hoursFault 32 = .ok (.ifCond .eq 12, 3) := by decide +kernel
theorem dX7_hoursFault_35 : decode cX7_hoursFault 35 = .ok (.iload_n 2, 1) := by decide +kernel
theorem dX7_hoursFault_36 : decode cX7_hoursFault 36 = .ok (.iload_n 3, 1) := by decide +kernel
theorem dX7_hoursFault_37 : decode cX7_hoursFault 37 = .ok (.if_icmp .eq 7, 3) := by decide +kernel
theorem dX7_hoursFault_40 : decode cX7_hoursFault 40 = .ok (.iconst 0, 1) := by decide +kernel
theorem dX7_hoursFault_41 : decode cX7_hoursFault 41 = .ok (.goto 5, 3) := by decide +kernel
theorem dX7_hoursFault_44 : decode cX7_hoursFault 44 = .ok (.bipush (-2), 2) := by decide +kernel
theorem dX7_hoursFault_46 : decode cX7_hoursFault 46 = .ok (.ireturn, 1) := by decide +kernel
set_option maxRecDepth 20000 in
theorem ggX7_putsHours_X7_ofD : GoodIn wsX7_putsHours wsX7_ofD := goodIn_r _ [5] (by decide +kernel) (by decide +kernel)
set_option maxRecDepth 20000 in
theorem gX7_putsHours_X7_ofD : GoodIn wsX7_putsHours (va_wsS RX7 35 yX7_ofD wsX7_ofD) := goodIn_app (goodIn_of _ (by decide +kernel)) ggX7_putsHours_X7_ofD
theorem dX7_putsHours_0 : decode cX7_putsHours 0 = .ok (.aload_n 0, 1) := by decide +kernel
theorem dX7_putsHours_1 : decode cX7_putsHours 1 = .ok (.getfield 7, 3) := by decide +kernel
theorem dX7_putsHours_4 : decode cX7_putsHours 4 = .ok (.iload_n 1, 1) := by decide +kernel
theorem dX7_putsHours_5 : decode cX7_putsHours 5 = .ok (.iconst 2, 1) := by decide +kernel
theorem dX7_putsHours_6 : decode cX7_putsHours 6 = .ok (.invokestatic 35, 3) := by decide +kernel
theorem dX7_putsHours_9 : decode cX7_putsHours 9 = .ok (.iaload, 1) := by decide +kernel
theorem dX7_putsHours_10 : decode cX7_putsHours 10 = .ok (.bipush (-6), 2) := by decide +kernel
theorem dX7_putsHours_12 : decode cX7_putsHours 12 = .ok (.if_icmp .ne 7, 3) := by decide +kernel
theorem dX7_putsHours_15 : decode cX7_putsHours 15 = .ok (.iconst 0, 1) := by decide +kernel
theorem dX7_putsHours_16 : decode cX7_putsHours 16 = .ok (.goto 4, 3) := by decide +kernel
theorem dX7_putsHours_19 : decode cX7_putsHours 19 = .ok (.iconst 1, 1) := by decide +kernel
theorem dX7_putsHours_20 : decode cX7_putsHours 20 = .ok (.istore 4, 2) := by decide +kernel
theorem dX7_putsHours_22 : decode cX7_putsHours 22 = .ok (.aload_n 0, 1) := by decide +kernel
theorem dX7_putsHours_23 : decode cX7_putsHours 23 = .ok (.getfield 7, 3) := by decide +kernel
theorem dX7_putsHours_26 : decode cX7_putsHours 26 = .ok (.iload_n 1, 1) := by decide +kernel
theorem dX7_putsHours_27 : decode cX7_putsHours 27 = .ok (.iconst 2, 1) := by decide +kernel
theorem dX7_putsHours_28 : decode cX7_putsHours 28 = .ok (.invokestatic 35, 3) := by decide +kernel
theorem dX7_putsHours_31 : decode cX7_putsHours 31 = .ok (.iload_n 2, 1) := by decide +kernel
theorem dX7_putsHours_32 : decode cX7_putsHours 32 = .ok (.iastore, 1) := by decide +kernel
theorem dX7_putsHours_33 : decode cX7_putsHours 33 = .ok (.aload_n 0, 1) := by decide +kernel
theorem dX7_putsHours_34 : decode cX7_putsHours 34 = .ok (.getfield 7, 3) := by decide +kernel
theorem dX7_putsHours_37 : decode cX7_putsHours 37 = .ok (.iload_n 1, 1) := by decide +kernel
theorem dX7_putsHours_38 : decode cX7_putsHours 38 = .ok (.iconst 3, 1) := by decide +kernel
theorem dX7_putsHours_39 : decode cX7_putsHours 39 = .ok (.invokestatic 35, 3) := by decide +kernel
theorem dX7_putsHours_42 : decode cX7_putsHours 42 = .ok (.iload_n 2, 1) := by decide +kernel
theorem dX7_putsHours_43 : decode cX7_putsHours 43 = .ok (.bipush (-6), 2) := by decide +kernel
theorem dX7_putsHours_45 : decode cX7_putsHours 45 = .ok (.if_icmp .ne 8, 3) := by decide +kernel
theorem dX7_putsHours_48 : decode cX7_putsHours 48 = .ok (.bipush (-6), 2) := by decide +kernel
theorem dX7_putsHours_50 : decode cX7_putsHours 50 = .ok (.goto 4, 3) := by decide +kernel
theorem dX7_putsHours_53 : decode cX7_putsHours 53 = .ok (.iload_n 3, 1) := by decide +kernel
theorem dX7_putsHours_54 : decode cX7_putsHours 54 = .ok (.iastore, 1) := by decide +kernel
theorem dX7_putsHours_55 : decode cX7_putsHours 55 = .ok (.iload 4, 2) := by decide +kernel
theorem dX7_putsHours_57 : decode cX7_putsHours 57 = .ok (.ireturn, 1) := by decide +kernel
set_option maxRecDepth 20000 in
theorem ggX7_burnFault_X7_isLetter : GoodIn wsX7_burnFault wsX7_isLetter := goodIn_r _ [6, 1, 7, 8, 5, 9, 16, 17, 18, 19, 20, 21, 22, 23, 24, 25, 26, 27, 28, 29, 30, 31] (by decide +kernel) (by decide +kernel)
set_option maxRecDepth 20000 in
theorem gX7_burnFault_X7_isLetter : GoodIn wsX7_burnFault (wsV RX7 61 RX7 yX7_isLetter wsX7_isLetter) := goodIn_app (goodIn_of _ (by decide +kernel)) ggX7_burnFault_X7_isLetter
set_option maxRecDepth 20000 in
theorem ggX7_burnFault_X7_ofL : GoodIn wsX7_burnFault wsX7_ofL := goodIn_r _ [12] (by decide +kernel) (by decide +kernel)
set_option maxRecDepth 20000 in
theorem gX7_burnFault_X7_ofL : GoodIn wsX7_burnFault (va_wsS RX7 47 yX7_ofL wsX7_ofL) := goodIn_app (goodIn_of _ (by decide +kernel)) ggX7_burnFault_X7_ofL
set_option maxRecDepth 20000 in
theorem ggX7_burnFault_X7_ofD : GoodIn wsX7_burnFault wsX7_ofD := goodIn_r _ [15] (by decide +kernel) (by decide +kernel)
set_option maxRecDepth 20000 in
theorem gX7_burnFault_X7_ofD : GoodIn wsX7_burnFault (va_wsS RX7 35 yX7_ofD wsX7_ofD) := goodIn_app (goodIn_of _ (by decide +kernel)) ggX7_burnFault_X7_ofD
theorem dX7_burnFault_0 : decode cX7_burnFault 0 = .ok (.aload_n 0, 1) := by decide +kernel
theorem dX7_burnFault_1 : decode cX7_burnFault 1 = .ok (.iload_n 1, 1) := by decide +kernel
theorem dX7_burnFault_2 : decode cX7_burnFault 2 = .ok (.invokevirtual 61, 3) := by decide +kernel
theorem dX7_burnFault_5 : decode cX7_burnFault 5 = .ok (.ifCond .ne 7, 3) := by decide +kernel
theorem dX7_burnFault_8 : decode cX7_burnFault 8 = .ok (.iconst (-1), 1) := by decide +kernel
theorem dX7_burnFault_9 : decode cX7_burnFault 9 = .ok (.goto 45, 3) := by decide +kernel
theorem dX7_burnFault_12 : decode cX7_burnFault 12 = .ok (.aload_n 0, 1) := by decide +kernel
theorem dX7_burnFault_13 : decode cX7_burnFault 13 = .ok (.getfield 7, 3) := by decide +kernel
theorem dX7_burnFault_16 : decode cX7_burnFault 16 = .ok (.iload_n 1, 1) := by decide +kernel
theorem dX7_burnFault_17 : decode cX7_burnFault 17 = .ok (.iconst 3, 1) := by decide +kernel
theorem dX7_burnFault_18 : decode cX7_burnFault 18 = .ok (.invokestatic 47, 3) := by decide +kernel
theorem dX7_burnFault_21 : decode cX7_burnFault 21 = .ok (.iaload, 1) := by decide +kernel
theorem dX7_burnFault_22 : decode cX7_burnFault 22 = .ok (.ifCond .ne 26, 3) := by decide +kernel
theorem dX7_burnFault_25 : decode cX7_burnFault 25 = .ok (.aload_n 0, 1) := by decide +kernel
theorem dX7_burnFault_26 : decode cX7_burnFault 26 = .ok (.getfield 7, 3) := by decide +kernel
theorem dX7_burnFault_29 : decode cX7_burnFault 29 = .ok (.aload_n 0, 1) := by decide +kernel
theorem dX7_burnFault_30 : decode cX7_burnFault 30 = .ok (.getfield 7, 3) := by decide +kernel
theorem dX7_burnFault_33 : decode cX7_burnFault 33 = .ok (.iload_n 1, 1) := by decide +kernel
theorem dX7_burnFault_34 : decode cX7_burnFault 34 = .ok (.iconst 0, 1) := by decide +kernel
theorem dX7_burnFault_35 : decode cX7_burnFault 35 = .ok (.invokestatic 47, 3) := by decide +kernel
theorem dX7_burnFault_38 : decode cX7_burnFault 38 = .ok (.iaload, 1) := by decide +kernel
theorem dX7_burnFault_39 : decode cX7_burnFault 39 = .ok (.iconst 0, 1) := by decide +kernel
theorem dX7_burnFault_40 : decode cX7_burnFault 40 = .ok (.invokestatic 35, 3) := by decide +kernel
theorem dX7_burnFault_43 : decode cX7_burnFault 43 = .ok (.iaload, 1) := by decide +kernel
theorem dX7_burnFault_44 : decode cX7_burnFault 44 = .ok (.iconst 1, 1) := by decide +kernel
theorem dX7_burnFault_45 : decode cX7_burnFault 45 = .ok (.if_icmp .ne 8, 3) := by decide +kernel
theorem dX7_burnFault_48 : decode cX7_burnFault 48 = .ok (.bipush (-5), 2) := by decide +kernel
theorem dX7_burnFault_50 : decode cX7_burnFault 50 = .ok (.goto 4, 3) := by decide +kernel
theorem dX7_burnFault_53 : decode cX7_burnFault 53 = .ok (.iconst 0, 1) := by decide +kernel
theorem dX7_burnFault_54 : decode cX7_burnFault 54 = .ok (.ireturn, 1) := by decide +kernel
set_option maxRecDepth 20000 in
theorem ggX7_burns_X7_ofL : GoodIn wsX7_burns wsX7_ofL := goodIn_r _ [5] (by decide +kernel) (by decide +kernel)
set_option maxRecDepth 20000 in
theorem gX7_burns_X7_ofL : GoodIn wsX7_burns (va_wsS RX7 47 yX7_ofL wsX7_ofL) := goodIn_app (goodIn_of _ (by decide +kernel)) ggX7_burns_X7_ofL
set_option maxRecDepth 20000 in
theorem ggX7_burns_X7_heat : GoodIn wsX7_burns wsX7_heat := goodIn_r _ [9, 1, 2, 3, 4, 5, 10, 11, 12, 13, 14, 15, 16, 17, 18, 19, 20, 21, 22, 23, 24, 25] (by decide +kernel) (by decide +kernel)
set_option maxRecDepth 20000 in
theorem gX7_burns_X7_heat : GoodIn wsX7_burns (wsV RX7 50 RX7 yX7_heat wsX7_heat) := goodIn_app (goodIn_of _ (by decide +kernel)) ggX7_burns_X7_heat
theorem dX7_burns_0 : decode cX7_burns 0 = .ok (.aload_n 0, 1) := by decide +kernel
theorem dX7_burns_1 : decode cX7_burns 1 = .ok (.getfield 7, 3) := by decide +kernel
theorem dX7_burns_4 : decode cX7_burns 4 = .ok (.iload_n 1, 1) := by decide +kernel
theorem dX7_burns_5 : decode cX7_burns 5 = .ok (.iconst 3, 1) := by decide +kernel
theorem dX7_burns_6 : decode cX7_burns 6 = .ok (.invokestatic 47, 3) := by decide +kernel
end
section
theorem dX7_burns_9 : decode cX7_burns 9 = .ok (.iconst 2, 1) := by decide +kernel
theorem dX7_burns_10 : decode cX7_burns 10 = .ok (.iastore, 1) := by decide +kernel
theorem dX7_burns_11 : decode cX7_burns 11 = .ok (.aload_n 0, 1) := by decide +kernel
theorem dX7_burns_12 : decode cX7_burns 12 = .ok (.iload_n 1, 1) := by decide +kernel
theorem dX7_burns_13 : decode cX7_burns 13 = .ok (.invokevirtual 50, 3) := by decide +kernel
theorem dX7_burns_16 : decode cX7_burns 16 = .ok (.ireturn, 1) := by decide +kernel
set_option maxRecDepth 20000 in
theorem ggX7_passFault_X7_in : GoodIn wsX7_passFault wsX7_in := goodIn_r _ [5] (by decide +kernel) (by decide +kernel)
set_option maxRecDepth 20000 in
theorem gX7_passFault_X7_in : GoodIn wsX7_passFault (va_wsS RX7 39 yX7_in wsX7_in) := goodIn_app (goodIn_of _ (by decide +kernel)) ggX7_passFault_X7_in
theorem dX7_passFault_0 : decode cX7_passFault 0 = .ok (.iload_n 1, 1) := by decide +kernel
theorem dX7_passFault_1 : decode cX7_passFault 1 = .ok (.iconst 1, 1) := by decide +kernel
theorem dX7_passFault_2 : decode cX7_passFault 2 = .ok (.sipush 240, 3) := by decide +kernel
theorem dX7_passFault_5 : decode cX7_passFault 5 = .ok (.invokestatic 39, 3) := by decide +kernel
theorem dX7_passFault_8 : decode cX7_passFault 8 = .ok (.ifCond .ne 8, 3) := by decide +kernel
theorem dX7_passFault_11 : decode cX7_passFault 11 = .ok (.bipush (-2), 2) := by decide +kernel
theorem dX7_passFault_13 : decode cX7_passFault 13 = .ok (.goto 33, 3) := by decide +kernel
theorem dX7_passFault_16 : decode cX7_passFault 16 = .ok (.aload_n 0, 1) := by decide +kernel
theorem dX7_passFault_17 : decode cX7_passFault 17 = .ok (.getfield 7, 3) := by decide +kernel
theorem dX7_passFault_20 : decode cX7_passFault 20 = .ok (.iconst 3, 1) := by decide +kernel
theorem dX7_passFault_21 : decode cX7_passFault 21 = .ok (.iaload, 1) := by decide +kernel
theorem dX7_passFault_22 : decode cX7_passFault 22 = .ok (.aload_n 0, 1) := by decide +kernel
theorem dX7_passFault_23 : decode cX7_passFault 23 = .ok (.getfield 7, 3) := by decide +kernel
theorem dX7_passFault_26 : decode cX7_passFault 26 = .ok (.iconst 4, 1) := by decide +kernel
theorem dX7_passFault_27 : decode cX7_passFault 27 = .ok (.iaload, 1) := by decide +kernel
theorem dX7_passFault_28 : decode cX7_passFault 28 = .ok (.iload_n 1, 1) := by decide +kernel
theorem dX7_passFault_29 : decode cX7_passFault 29 = .ok (.iadd, 1) := by decide +kernel
theorem dX7_passFault_30 : decode cX7_passFault 30 = .ok (.bipush 24, 2) := by decide +kernel
theorem dX7_passFault_32 : decode cX7_passFault 32 = .ok (.idiv, 1) := by decide +kernel
theorem dX7_passFault_33 : decode cX7_passFault 33 = .ok (.iadd, 1) := by decide +kernel
theorem dX7_passFault_34 : decode cX7_passFault 34 = .ok (.sipush 999, 3) := by decide +kernel
theorem dX7_passFault_37 : decode cX7_passFault 37 = .ok (.if_icmp .le 8, 3) := by decide +kernel
theorem dX7_passFault_40 : decode cX7_passFault 40 = .ok (.bipush (-5), 2) := by decide +kernel
theorem dX7_passFault_42 : decode cX7_passFault 42 = .ok (.goto 4, 3) := by decide +kernel
theorem dX7_passFault_45 : decode cX7_passFault 45 = .ok (.iconst 0, 1) := by decide +kernel
theorem dX7_passFault_46 : decode cX7_passFault 46 = .ok (.ireturn, 1) := by decide +kernel
set_option maxRecDepth 20000 in
theorem ggX7_passes_X7_many : GoodIn wsX7_passes wsX7_many := goodIn_r _ [5, 6, 7, 8, 4, 9, 25, 26, 27, 28, 29, 30, 31, 32, 33, 34, 35, 36, 37, 38, 39, 40] (by decide +kernel) (by decide +kernel)
set_option maxRecDepth 20000 in
theorem gX7_passes_X7_many : GoodIn wsX7_passes (wsV RX7 64 RX7 yX7_many wsX7_many) := goodIn_app (goodIn_of _ (by decide +kernel)) ggX7_passes_X7_many
set_option maxRecDepth 20000 in
theorem ggX7_passes_X7_hour : GoodIn wsX7_passes wsX7_hour := goodIn_r _ [13, 6, 14, 15, 4, 16, 17, 18, 19, 20, 7, 8, 9, 21, 22, 23, 24, 25, 26, 27, 28, 29, 30, 31, 32, 33, 34, 35, 36, 37, 38, 39, 40] (by decide +kernel) (by decide +kernel)
set_option maxRecDepth 20000 in
theorem gX7_passes_X7_hour : GoodIn wsX7_passes (wsV RX7 67 RX7 yX7_hour wsX7_hour) := goodIn_app (goodIn_of _ (by decide +kernel)) ggX7_passes_X7_hour
theorem dX7_passes_0 : decode cX7_passes 0 = .ok (.aload_n 0, 1) := by decide +kernel
theorem dX7_passes_1 : decode cX7_passes 1 = .ok (.bipush 6, 2) := by decide +kernel
theorem dX7_passes_3 : decode cX7_passes 3 = .ok (.iconst 1, 1) := by decide +kernel
theorem dX7_passes_4 : decode cX7_passes 4 = .ok (.invokevirtual 64, 3) := by decide +kernel
theorem dX7_passes_7 : decode cX7_passes 7 = .ok (.istore_n 2, 1) := by decide +kernel
theorem dX7_passes_8 : decode cX7_passes 8 = .ok (.iconst 0, 1) := by decide +kernel
theorem dX7_passes_9 : decode cX7_passes 9 = .ok (.istore_n 3, 1) := by decide +kernel
theorem dX7_passes_10 : decode cX7_passes 10 = .ok (.iload_n 3, 1) := by decide +kernel
theorem dX7_passes_11 : decode cX7_passes 11 = .ok (.iload_n 1, 1) := by decide +kernel
theorem dX7_passes_12 : decode cX7_passes 12 = .ok (.if_icmp .ge 13, 3) := by decide +kernel
theorem dX7_passes_15 : decode cX7_passes 15 = .ok (.aload_n 0, 1) := by decide +kernel
theorem dX7_passes_16 : decode cX7_passes 16 = .ok (.invokevirtual 67, 3) := by decide +kernel
theorem dX7_passes_19 : decode cX7_passes 19 = .ok (.iinc 3 1, 3) := by decide +kernel
theorem dX7_passes_22 : decode cX7_passes 22 = .ok (.goto (-12), 3) := by decide +kernel
theorem dX7_passes_25 : decode cX7_passes 25 = .ok (.aload_n 0, 1) := by decide +kernel
theorem dX7_passes_26 : decode cX7_passes 26 = .ok (.bipush 6, 2) := by decide +kernel
theorem dX7_passes_28 : decode cX7_passes 28 = .ok (.iconst 1, 1) := by decide +kernel
theorem dX7_passes_29 : decode cX7_passes 29 = .ok (.invokevirtual 64, 3) := by decide +kernel
theorem dX7_passes_32 : decode cX7_passes 32 = .ok (.iload_n 2, 1) := by decide +kernel
theorem dX7_passes_33 : decode cX7_passes 33 = .ok (.isub, 1) := by decide +kernel
theorem dX7_passes_34 : decode cX7_passes 34 = .ok (.ireturn, 1) := by decide +kernel
set_option maxRecDepth 20000 in
theorem ggX7_set_X7_in : GoodIn wsX7_set wsX7_in := goodIn_r _ [5] (by decide +kernel) (by decide +kernel)
set_option maxRecDepth 20000 in
theorem gX7_set_X7_in : GoodIn wsX7_set (va_wsS RX7 39 yX7_in wsX7_in) := goodIn_app (goodIn_of _ (by decide +kernel)) ggX7_set_X7_in
set_option maxRecDepth 20000 in
theorem ggX7_set_X7_know : GoodIn wsX7_set wsX7_know := goodIn_r _ [9, 10, 11, 1, 12, 13, 14, 15, 16, 17, 18, 19, 20, 21, 22, 23, 24, 25, 26, 27] (by decide +kernel) (by decide +kernel)
set_option maxRecDepth 20000 in
theorem gX7_set_X7_know : GoodIn wsX7_set (wsV RX7 70 RX7 yX7_know wsX7_know) := goodIn_app (goodIn_of _ (by decide +kernel)) ggX7_set_X7_know
theorem dX7_set_0 : decode cX7_set 0 = .ok (.iload_n 1, 1) := by decide +kernel
theorem dX7_set_1 : decode cX7_set 1 = .ok (.ifCond .ne 8, 3) := by decide +kernel
theorem dX7_set_4 : decode cX7_set 4 = .ok (.bipush 23, 2) := by decide +kernel
theorem dX7_set_6 : decode cX7_set 6 = .ok (.goto 15, 3) := by decide +kernel
theorem dX7_set_9 : decode cX7_set 9 = .ok (.iload_n 1, 1) := by decide +kernel
theorem dX7_set_10 : decode cX7_set 10 = .ok (.iconst 1, 1) := by decide +kernel
theorem dX7_set_11 : decode cX7_set 11 = .ok (.if_icmp .ne 8, 3) := by decide +kernel
theorem dX7_set_14 : decode cX7_set 14 = .ok (.bipush 99, 2) := by decide +kernel
theorem dX7_set_16 : decode cX7_set 16 = .ok (.goto 5, 3) := by decide +kernel
theorem dX7_set_19 : decode cX7_set 19 = .ok (.bipush 20, 2) := by decide +kernel
theorem dX7_set_21 : decode cX7_set 21 = .ok (.istore_n 3, 1) := by decide +kernel
theorem dX7_set_22 : decode cX7_set 22 = .ok (.iload_n 1, 1) := by decide +kernel
theorem dX7_set_23 : decode cX7_set 23 = .ok (.iconst 0, 1) := by decide +kernel
theorem dX7_set_24 : decode cX7_set 24 = .ok (.iconst 2, 1) := by decide +kernel
theorem dX7_set_25 : decode cX7_set 25 = .ok (.invokestatic 39, 3) := by decide +kernel
theorem dX7_set_28 : decode cX7_set 28 = .ok (.ifCond .eq 12, 3) := by decide +kernel
theorem dX7_set_31 : decode cX7_set 31 = .ok (.iload_n 2, 1) := by decide +kernel
theorem dX7_set_32 : decode cX7_set 32 = .ok (.iconst 0, 1) := by decide +kernel
theorem dX7_set_33 : decode cX7_set 33 = .ok (.iload_n 3, 1) := by decide +kernel
theorem dX7_set_34 : decode cX7_set 34 = .ok (.invokestatic 39, 3) := by decide +kernel
theorem dX7_set_37 : decode cX7_set 37 = .ok (.ifCond .ne 6, 3) := by decide +kernel
theorem dX7_set_40 : decode cX7_set 40 = .ok (.bipush (-2), 2) := by decide +kernel
theorem dX7_set_42 : decode cX7_set 42 = .ok (.ireturn, 1) := by decide +kernel
theorem dX7_set_43 : decode cX7_set 43 = .ok (.aload_n 0, 1) := by decide +kernel
theorem dX7_set_44 : decode cX7_set 44 = .ok (.invokevirtual 70, 3) := by decide +kernel
theorem dX7_set_47 : decode cX7_set 47 = .ok (.aload_n 0, 1) := by decide +kernel
theorem dX7_set_48 : decode cX7_set 48 = .ok (.getfield 7, 3) := by decide +kernel
theorem dX7_set_51 : decode cX7_set 51 = .ok (.iconst 0, 1) := by decide +kernel
theorem dX7_set_52 : decode cX7_set 52 = .ok (.iload_n 1, 1) := by decide +kernel
theorem dX7_set_53 : decode cX7_set 53 = .ok (.iadd, 1) := by decide +kernel
theorem dX7_set_54 : decode cX7_set 54 = .ok (.iaload, 1) := by decide +kernel
theorem dX7_set_55 : decode cX7_set 55 = .ok (.istore 4, 2) := by decide +kernel
theorem dX7_set_57 : decode cX7_set 57 = .ok (.aload_n 0, 1) := by decide +kernel
theorem dX7_set_58 : decode cX7_set 58 = .ok (.getfield 7, 3) := by decide +kernel
theorem dX7_set_61 : decode cX7_set 61 = .ok (.iconst 0, 1) := by decide +kernel
theorem dX7_set_62 : decode cX7_set 62 = .ok (.iload_n 1, 1) := by decide +kernel
theorem dX7_set_63 : decode cX7_set 63 = .ok (.iadd, 1) := by decide +kernel
theorem dX7_set_64 : decode cX7_set 64 = .ok (.iload_n 2, 1) := by decide +kernel
theorem dX7_set_65 : decode cX7_set 65 = .ok (.iastore, 1) := by decide +kernel
theorem dX7_set_66 : decode cX7_set 66 = .ok (.iload 4, 2) := by decide +kernel
theorem dX7_set_68 : decode cX7_set 68 = .ok (.ireturn, 1) := by decide +kernel
set_option maxRecDepth 20000 in
theorem ggX7_write_X7_writeFault : GoodIn wsX7_write wsX7_writeFault := goodIn_r _ [5, 6, 7, 8, 4, 9, 10, 11, 12, 13, 14, 15, 16, 17, 18, 19, 20, 21, 22, 23, 34, 35, 36, 37, 38, 39, 40, 41, 42, 43, 44, 45, 46, 47, 48, 49] (by decide +kernel) (by decide +kernel)
set_option maxRecDepth 20000 in
theorem gX7_write_X7_writeFault : GoodIn wsX7_write (wsV RX7 73 RX7 yX7_writeFault wsX7_writeFault) := goodIn_app (goodIn_of _ (by decide +kernel)) ggX7_write_X7_writeFault
set_option maxRecDepth 20000 in
theorem ggX7_write_X7_know : GoodIn wsX7_write wsX7_know := goodIn_r _ [27, 28, 29, 6, 34, 35, 36, 37, 38, 39, 40, 41, 42, 43, 44, 45, 46, 47, 48, 49] (by decide +kernel) (by decide +kernel)
set_option maxRecDepth 20000 in
theorem gX7_write_X7_know : GoodIn wsX7_write (wsV RX7 70 RX7 yX7_know wsX7_know) := goodIn_app (goodIn_of _ (by decide +kernel)) ggX7_write_X7_know
set_option maxRecDepth 20000 in
theorem ggX7_write_X7_writes : GoodIn wsX7_write wsX7_writes := goodIn_r _ [33, 6, 21, 22, 4, 23, 34, 35, 36, 37, 38, 39, 40, 41, 42, 43, 44, 45, 46, 47, 48, 49] (by decide +kernel) (by decide +kernel)
set_option maxRecDepth 20000 in
theorem gX7_write_X7_writes : GoodIn wsX7_write (wsV RX7 77 RX7 yX7_writes wsX7_writes) := goodIn_app (goodIn_of _ (by decide +kernel)) ggX7_write_X7_writes
theorem dX7_write_0 : decode cX7_write 0 = .ok (.aload_n 0, 1) := by decide +kernel
theorem dX7_write_1 : decode cX7_write 1 = .ok (.iload_n 1, 1) := by decide +kernel
theorem dX7_write_2 : decode cX7_write 2 = .ok (.iload_n 2, 1) := by decide +kernel
theorem dX7_write_3 : decode cX7_write 3 = .ok (.iload_n 3, 1) := by decide +kernel
theorem dX7_write_4 : decode cX7_write 4 = .ok (.invokevirtual 73, 3) := by decide +kernel
theorem dX7_write_7 : decode cX7_write 7 = .ok (.istore 4, 2) := by decide +kernel
theorem dX7_write_9 : decode cX7_write 9 = .ok (.iload 4, 2) := by decide +kernel
theorem dX7_write_11 : decode cX7_write 11 = .ok (.ifCond .ge 6, 3) := by decide +kernel
theorem dX7_write_14 : decode cX7_write 14 = .ok (.iload 4, 2) := by decide +kernel
theorem dX7_write_16 : decode cX7_write 16 = .ok (.ireturn, 1) := by decide +kernel
theorem dX7_write_17 : decode cX7_write 17 = .ok (.aload_n 0, 1) := by decide +kernel
theorem dX7_write_18 : decode cX7_write 18 = .ok (.invokevirtual 70, 3) := by decide +kernel
theorem dX7_write_21 : decode cX7_write 21 = .ok (.aload_n 0, 1) := by decide +kernel
theorem dX7_write_22 : decode cX7_write 22 = .ok (.iload_n 1, 1) := by decide +kernel
theorem dX7_write_23 : decode cX7_write 23 = .ok (.iload_n 2, 1) := by decide +kernel
theorem dX7_write_24 : decode cX7_write 24 = .ok (.iload_n 3, 1) := by decide +kernel
theorem dX7_write_25 : decode cX7_write 25 = .ok (.invokevirtual 77, 3) := by decide +kernel
theorem dX7_write_28 : decode cX7_write 28 = .ok (.ireturn, 1) := by decide +kernel
set_option maxRecDepth 20000 in
theorem ggX7_turn_X7_isMood : GoodIn wsX7_turn wsX7_isMood := goodIn_r _ [4, 5, 6, 3, 7] (by decide +kernel) (by decide +kernel)
set_option maxRecDepth 20000 in
theorem gX7_turn_X7_isMood : GoodIn wsX7_turn (va_wsS RX7 58 yX7_isMood wsX7_isMood) := goodIn_app (goodIn_of _ (by decide +kernel)) ggX7_turn_X7_isMood
set_option maxRecDepth 20000 in
theorem ggX7_turn_X7_know : GoodIn wsX7_turn wsX7_know := goodIn_r _ [11, 12, 13, 14, 22, 23, 24, 25, 26, 27, 28, 29, 30, 31, 32, 33, 34, 35, 36, 37] (by decide +kernel) (by decide +kernel)
set_option maxRecDepth 20000 in
theorem gX7_turn_X7_know : GoodIn wsX7_turn (wsV RX7 70 RX7 yX7_know wsX7_know) := goodIn_app (goodIn_of _ (by decide +kernel)) ggX7_turn_X7_know
set_option maxRecDepth 20000 in
theorem ggX7_turn_X7_turns : GoodIn wsX7_turn wsX7_turns := goodIn_r _ [18, 14, 19, 20, 3, 21, 22, 23, 24, 25, 26, 27, 28, 29, 30, 31, 32, 33, 34, 35, 36, 37] (by decide +kernel) (by decide +kernel)
set_option maxRecDepth 20000 in
theorem gX7_turn_X7_turns : GoodIn wsX7_turn (wsV RX7 80 RX7 yX7_turns wsX7_turns) := goodIn_app (goodIn_of _ (by decide +kernel)) ggX7_turn_X7_turns
theorem dX7_turn_0 : decode cX7_turn 0 = .ok (.iload_n 1, 1) := by decide +kernel
theorem dX7_turn_1 : decode cX7_turn 1 = .ok (.invokestatic 58, 3) := by decide +kernel
theorem dX7_turn_4 : decode cX7_turn 4 = .ok (.ifCond .ne 5, 3) := by decide +kernel
theorem dX7_turn_7 : decode cX7_turn 7 = .ok (.iconst (-1), 1) := by decide +kernel
theorem dX7_turn_8 : decode cX7_turn 8 = .ok (.ireturn, 1) := by decide +kernel
theorem dX7_turn_9 : decode cX7_turn 9 = .ok (.aload_n 0, 1) := by decide +kernel
theorem dX7_turn_10 : decode cX7_turn 10 = .ok (.invokevirtual 70, 3) := by decide +kernel
theorem dX7_turn_13 : decode cX7_turn 13 = .ok (.aload_n 0, 1) := by decide +kernel
theorem dX7_turn_14 : decode cX7_turn 14 = .ok (.iload_n 1, 1) := by decide +kernel
theorem dX7_turn_15 : decode cX7_turn 15 = .ok (.invokevirtual 80, 3) := by decide +kernel
theorem dX7_turn_18 : decode cX7_turn 18 = .ok (.ireturn, 1) := by decide +kernel
set_option maxRecDepth 20000 in
theorem ggX7_rest_X7_isMood : GoodIn wsX7_rest wsX7_isMood := goodIn_r _ [5, 6, 7, 4, 8] (by decide +kernel) (by decide +kernel)
set_option maxRecDepth 20000 in
theorem gX7_rest_X7_isMood : GoodIn wsX7_rest (va_wsS RX7 58 yX7_isMood wsX7_isMood) := goodIn_app (goodIn_of _ (by decide +kernel)) ggX7_rest_X7_isMood
set_option maxRecDepth 20000 in
theorem ggX7_rest_X7_in : GoodIn wsX7_rest wsX7_in := goodIn_r _ [8] (by decide +kernel) (by decide +kernel)
set_option maxRecDepth 20000 in
theorem gX7_rest_X7_in : GoodIn wsX7_rest (va_wsS RX7 39 yX7_in wsX7_in) := goodIn_app (goodIn_of _ (by decide +kernel)) ggX7_rest_X7_in
set_option maxRecDepth 20000 in
theorem ggX7_rest_X7_know : GoodIn wsX7_rest wsX7_know := goodIn_r _ [12, 13, 14, 1, 18, 19, 20, 21, 22, 23, 24, 25, 26, 27, 28, 29, 30, 31, 32, 33] (by decide +kernel) (by decide +kernel)
set_option maxRecDepth 20000 in
theorem gX7_rest_X7_know : GoodIn wsX7_rest (wsV RX7 70 RX7 yX7_know wsX7_know) := goodIn_app (goodIn_of _ (by decide +kernel)) ggX7_rest_X7_know
set_option maxRecDepth 20000 in
theorem ggX7_rest_X7_ofD : GoodIn wsX7_rest wsX7_ofD := goodIn_r _ [17] (by decide +kernel) (by decide +kernel)
set_option maxRecDepth 20000 in
theorem gX7_rest_X7_ofD : GoodIn wsX7_rest (va_wsS RX7 35 yX7_ofD wsX7_ofD) := goodIn_app (goodIn_of _ (by decide +kernel)) ggX7_rest_X7_ofD
theorem dX7_rest_0 : decode cX7_rest 0 = .ok (.iload_n 1, 1) := by decide +kernel
theorem dX7_rest_1 : decode cX7_rest 1 = .ok (.invokestatic 58, 3) := by decide +kernel
theorem dX7_rest_4 : decode cX7_rest 4 = .ok (.ifCond .ne 5, 3) := by decide +kernel
theorem dX7_rest_7 : decode cX7_rest 7 = .ok (.iconst (-1), 1) := by decide +kernel
theorem dX7_rest_8 : decode cX7_rest 8 = .ok (.ireturn, 1) := by decide +kernel
theorem dX7_rest_9 : decode cX7_rest 9 = .ok (.iload_n 2, 1) := by decide +kernel
theorem dX7_rest_10 : decode cX7_rest 10 = .ok (.iconst 0, 1) := by decide +kernel
theorem dX7_rest_11 : decode cX7_rest 11 = .ok (.bipush 30, 2) := by decide +kernel
theorem dX7_rest_13 : decode cX7_rest 13 = .ok (.invokestatic 39, 3) := by decide +kernel
theorem dX7_rest_16 : decode cX7_rest 16 = .ok (.ifCond .ne 6, 3) := by decide +kernel
theorem dX7_rest_19 : decode cX7_rest 19 = .ok (.bipush (-2), 2) := by decide +kernel
theorem dX7_rest_21 : decode cX7_rest 21 = .ok (.ireturn, 1) := by decide +kernel
theorem dX7_rest_22 : decode cX7_rest 22 = .ok (.aload_n 0, 1) := by decide +kernel
theorem dX7_rest_23 : decode cX7_rest 23 = .ok (.invokevirtual 70, 3) := by decide +kernel
theorem dX7_rest_26 : decode cX7_rest 26 = .ok (.aload_n 0, 1) := by decide +kernel
theorem dX7_rest_27 : decode cX7_rest 27 = .ok (.getfield 7, 3) := by decide +kernel
theorem dX7_rest_30 : decode cX7_rest 30 = .ok (.iload_n 1, 1) := by decide +kernel
theorem dX7_rest_31 : decode cX7_rest 31 = .ok (.iconst 1, 1) := by decide +kernel
theorem dX7_rest_32 : decode cX7_rest 32 = .ok (.invokestatic 35, 3) := by decide +kernel
theorem dX7_rest_35 : decode cX7_rest 35 = .ok (.iaload, 1) := by decide +kernel
theorem dX7_rest_36 : decode cX7_rest 36 = .ok (.istore_n 3, 1) := by decide +kernel
theorem dX7_rest_37 : decode cX7_rest 37 = .ok (.aload_n 0, 1) := by decide +kernel
theorem dX7_rest_38 : decode cX7_rest 38 = .ok (.getfield 7, 3) := by decide +kernel
theorem dX7_rest_41 : decode cX7_rest 41 = .ok (.iload_n 1, 1) := by decide +kernel
theorem dX7_rest_42 : decode cX7_rest 42 = .ok (.iconst 1, 1) := by decide +kernel
theorem dX7_rest_43 : decode cX7_rest 43 = .ok (.invokestatic 35, 3) := by decide +kernel
theorem dX7_rest_46 : decode cX7_rest 46 = .ok (.iload_n 2, 1) := by decide +kernel
theorem dX7_rest_47 : decode cX7_rest 47 = .ok (.iastore, 1) := by decide +kernel
theorem dX7_rest_48 : decode cX7_rest 48 = .ok (.iload_n 3, 1) := by decide +kernel
theorem dX7_rest_49 : decode cX7_rest 49 = .ok (.ireturn, 1) := by decide +kernel
set_option maxRecDepth 20000 in
theorem ggX7_hours_X7_hoursFault : GoodIn wsX7_hours wsX7_hoursFault := goodIn_r _ [5, 6, 7, 4, 8, 9, 10, 11] (by decide +kernel) (by decide +kernel)
set_option maxRecDepth 20000 in
theorem gX7_hours_X7_hoursFault : GoodIn wsX7_hours (wsV RX7 83 RX7 yX7_hoursFault wsX7_hoursFault) := goodIn_app (goodIn_of _ (by decide +kernel)) ggX7_hours_X7_hoursFault
set_option maxRecDepth 20000 in
theorem ggX7_hours_X7_know : GoodIn wsX7_hours wsX7_know := goodIn_r _ [15, 16, 17, 18, 26, 27, 28, 29, 30, 31, 32, 33, 34, 35, 36, 37, 38, 39, 40, 41] (by decide +kernel) (by decide +kernel)
set_option maxRecDepth 20000 in
theorem gX7_hours_X7_know : GoodIn wsX7_hours (wsV RX7 70 RX7 yX7_know wsX7_know) := goodIn_app (goodIn_of _ (by decide +kernel)) ggX7_hours_X7_know
set_option maxRecDepth 20000 in
theorem ggX7_hours_X7_putsHours : GoodIn wsX7_hours wsX7_putsHours := goodIn_r _ [22, 18, 23, 24, 4, 25, 26, 27, 28, 29, 30, 31, 32, 33, 34, 35, 36, 37, 38, 39, 40, 41] (by decide +kernel) (by decide +kernel)
set_option maxRecDepth 20000 in
theorem gX7_hours_X7_putsHours : GoodIn wsX7_hours (wsV RX7 86 RX7 yX7_putsHours wsX7_putsHours) := goodIn_app (goodIn_of _ (by decide +kernel)) ggX7_hours_X7_putsHours
theorem dX7_hours_0 : decode cX7_hours 0 = .ok (.aload_n 0, 1) := by decide +kernel
theorem dX7_hours_1 : decode cX7_hours 1 = .ok (.iload_n 1, 1) := by decide +kernel
theorem dX7_hours_2 : decode cX7_hours 2 = .ok (.iload_n 2, 1) := by decide +kernel
theorem dX7_hours_3 : decode cX7_hours 3 = .ok (.iload_n 3, 1) := by decide +kernel
theorem dX7_hours_4 : decode cX7_hours 4 = .ok (.invokevirtual 83, 3) := by decide +kernel
theorem dX7_hours_7 : decode cX7_hours 7 = .ok (.istore 4, 2) := by decide +kernel
theorem dX7_hours_9 : decode cX7_hours 9 = .ok (.iload 4, 2) := by decide +kernel
theorem dX7_hours_11 : decode cX7_hours 11 = .ok (.ifCond .ge 6, 3) := by decide +kernel
theorem dX7_hours_14 : decode cX7_hours 14 = .ok (.iload 4, 2) := by decide +kernel
theorem dX7_hours_16 : decode cX7_hours 16 = .ok (.ireturn, 1) := by decide +kernel
theorem dX7_hours_17 : decode cX7_hours 17 = .ok (.aload_n 0, 1) := by decide +kernel
theorem dX7_hours_18 : decode cX7_hours 18 = .ok (.invokevirtual 70, 3) := by decide +kernel
theorem dX7_hours_21 : decode cX7_hours 21 = .ok (.aload_n 0, 1) := by decide +kernel
theorem dX7_hours_22 : decode cX7_hours 22 = .ok (.iload_n 1, 1) := by decide +kernel
theorem dX7_hours_23 : decode cX7_hours 23 = .ok (.iload_n 2, 1) := by decide +kernel
theorem dX7_hours_24 : decode cX7_hours 24 = .ok (.iload_n 3, 1) := by decide +kernel
theorem dX7_hours_25 : decode cX7_hours 25 = .ok (.invokevirtual 86, 3) := by decide +kernel
theorem dX7_hours_28 : decode cX7_hours 28 = .ok (.ireturn, 1) := by decide +kernel
set_option maxRecDepth 20000 in
theorem ggX7_burn_X7_burnFault : GoodIn wsX7_burn wsX7_burnFault := goodIn_r _ [5, 6, 7, 8, 9, 4, 10, 11, 12, 13, 14, 15, 16, 17, 18, 19, 34, 35, 36, 37, 38, 39, 40, 41, 42, 43, 44, 45, 46, 47, 48, 49] (by decide +kernel) (by decide +kernel)
set_option maxRecDepth 20000 in
theorem gX7_burn_X7_burnFault : GoodIn wsX7_burn (wsV RX7 89 RX7 yX7_burnFault wsX7_burnFault) := goodIn_app (goodIn_of _ (by decide +kernel)) ggX7_burn_X7_burnFault
set_option maxRecDepth 20000 in
theorem ggX7_burn_X7_know : GoodIn wsX7_burn wsX7_know := goodIn_r _ [23, 24, 25, 6, 34, 35, 36, 37, 38, 39, 40, 41, 42, 43, 44, 45, 46, 47, 48, 49] (by decide +kernel) (by decide +kernel)
set_option maxRecDepth 20000 in
theorem gX7_burn_X7_know : GoodIn wsX7_burn (wsV RX7 70 RX7 yX7_know wsX7_know) := goodIn_app (goodIn_of _ (by decide +kernel)) ggX7_burn_X7_know
set_option maxRecDepth 20000 in
theorem ggX7_burn_X7_burns : GoodIn wsX7_burn wsX7_burns := goodIn_r _ [29, 6, 14, 15, 4, 16, 30, 31, 32, 33, 34, 35, 36, 37, 38, 39, 40, 41, 42, 43, 44, 45, 46, 47, 48, 49] (by decide +kernel) (by decide +kernel)
set_option maxRecDepth 20000 in
theorem gX7_burn_X7_burns : GoodIn wsX7_burn (wsV RX7 92 RX7 yX7_burns wsX7_burns) := goodIn_app (goodIn_of _ (by decide +kernel)) ggX7_burn_X7_burns
theorem dX7_burn_0 : decode cX7_burn 0 = .ok (.aload_n 0, 1) := by decide +kernel
theorem dX7_burn_1 : decode cX7_burn 1 = .ok (.iload_n 1, 1) := by decide +kernel
theorem dX7_burn_2 : decode cX7_burn 2 = .ok (.invokevirtual 89, 3) := by decide +kernel
theorem dX7_burn_5 : decode cX7_burn 5 = .ok (.istore_n 2, 1) := by decide +kernel
theorem dX7_burn_6 : decode cX7_burn 6 = .ok (.iload_n 2, 1) := by decide +kernel
theorem dX7_burn_7 : decode cX7_burn 7 = .ok (.ifCond .ge 5, 3) := by decide +kernel
theorem dX7_burn_10 : decode cX7_burn 10 = .ok (.iload_n 2, 1) := by decide +kernel
theorem dX7_burn_11 : decode cX7_burn 11 = .ok (.ireturn, 1) := by decide +kernel
theorem dX7_burn_12 : decode cX7_burn 12 = .ok (.aload_n 0, 1) := by decide +kernel
theorem dX7_burn_13 : decode cX7_burn 13 = .ok (.invokevirtual 70, 3) := by decide +kernel
theorem dX7_burn_16 : decode cX7_burn 16 = .ok (.aload_n 0, 1) := by decide +kernel
theorem dX7_burn_17 : decode cX7_burn 17 = .ok (.iload_n 1, 1) := by decide +kernel
theorem dX7_burn_18 : decode cX7_burn 18 = .ok (.invokevirtual 92, 3) := by decide +kernel
theorem dX7_burn_21 : decode cX7_burn 21 = .ok (.ireturn, 1) := by decide +kernel
set_option maxRecDepth 20000 in
theorem ggX7_pass_X7_passFault : GoodIn wsX7_pass wsX7_passFault := goodIn_r _ [5, 6, 7, 8, 4, 9, 42, 43, 44, 45, 46, 47, 48, 49, 50, 51, 52, 53, 54, 55, 56, 57] (by decide +kernel) (by decide +kernel)
set_option maxRecDepth 20000 in
theorem gX7_pass_X7_passFault : GoodIn wsX7_pass (wsV RX7 95 RX7 yX7_passFault wsX7_passFault) := goodIn_app (goodIn_of _ (by decide +kernel)) ggX7_pass_X7_passFault
set_option maxRecDepth 20000 in
theorem ggX7_pass_X7_know : GoodIn wsX7_pass wsX7_know := goodIn_r _ [13, 14, 15, 6, 42, 43, 44, 45, 46, 47, 48, 49, 50, 51, 52, 53, 54, 55, 56, 57] (by decide +kernel) (by decide +kernel)
set_option maxRecDepth 20000 in
theorem gX7_pass_X7_know : GoodIn wsX7_pass (wsV RX7 70 RX7 yX7_know wsX7_know) := goodIn_app (goodIn_of _ (by decide +kernel)) ggX7_pass_X7_know
set_option maxRecDepth 20000 in
theorem ggX7_pass_X7_passes : GoodIn wsX7_pass wsX7_passes := goodIn_r _ [19, 20, 21, 22, 4, 23, 6, 24, 25, 26, 27, 28, 29, 30, 31, 32, 33, 34, 35, 36, 37, 38, 39, 40, 41, 42, 43, 44, 45, 46, 47, 48, 49, 50, 51, 52, 53, 54, 55, 56, 57] (by decide +kernel) (by decide +kernel)
set_option maxRecDepth 20000 in
theorem gX7_pass_X7_passes : GoodIn wsX7_pass (wsV RX7 98 RX7 yX7_passes wsX7_passes) := goodIn_app (goodIn_of _ (by decide +kernel)) ggX7_pass_X7_passes
theorem dX7_pass_0 : decode cX7_pass 0 = .ok (.aload_n 0, 1) := by decide +kernel
theorem dX7_pass_1 : decode cX7_pass 1 = .ok (.iload_n 1, 1) := by decide +kernel
theorem dX7_pass_2 : decode cX7_pass 2 = .ok (.invokevirtual 95, 3) := by decide +kernel
theorem dX7_pass_5 : decode cX7_pass 5 = .ok (.istore_n 2, 1) := by decide +kernel
theorem dX7_pass_6 : decode cX7_pass 6 = .ok (.iload_n 2, 1) := by decide +kernel
theorem dX7_pass_7 : decode cX7_pass 7 = .ok (.ifCond .ge 5, 3) := by decide +kernel
theorem dX7_pass_10 : decode cX7_pass 10 = .ok (.iload_n 2, 1) := by decide +kernel
theorem dX7_pass_11 : decode cX7_pass 11 = .ok (.ireturn, 1) := by decide +kernel
theorem dX7_pass_12 : decode cX7_pass 12 = .ok (.aload_n 0, 1) := by decide +kernel
theorem dX7_pass_13 : decode cX7_pass 13 = .ok (.invokevirtual 70, 3) := by decide +kernel
theorem dX7_pass_16 : decode cX7_pass 16 = .ok (.aload_n 0, 1) := by decide +kernel
theorem dX7_pass_17 : decode cX7_pass 17 = .ok (.iload_n 1, 1) := by decide +kernel
theorem dX7_pass_18 : decode cX7_pass 18 = .ok (.invokevirtual 98, 3) := by decide +kernel
theorem dX7_pass_21 : decode cX7_pass 21 = .ok (.ireturn, 1) := by decide +kernel
set_option maxRecDepth 20000 in
theorem ggX7_answering_X7_ofL : GoodIn wsX7_answering wsX7_ofL := goodIn_r _ [5] (by decide +kernel) (by decide +kernel)
set_option maxRecDepth 20000 in
theorem gX7_answering_X7_ofL : GoodIn wsX7_answering (va_wsS RX7 47 yX7_ofL wsX7_ofL) := goodIn_app (goodIn_of _ (by decide +kernel)) ggX7_answering_X7_ofL
theorem dX7_answering_0 : decode cX7_answering 0 = .ok (.iconst 0, 1) := by decide +kernel
theorem dX7_answering_1 : decode cX7_answering 1 = .ok (.istore_n 2, 1) := by decide +kernel
theorem dX7_answering_2 : decode cX7_answering 2 = .ok (.iconst 0, 1) := by decide +kernel
theorem dX7_answering_3 : decode cX7_answering 3 = .ok (.istore_n 3, 1) := by decide +kernel
theorem dX7_answering_4 : decode cX7_answering 4 = .ok (.iload_n 3, 1) := by decide +kernel
theorem dX7_answering_5 : decode cX7_answering 5 = .ok (.aload_n 0, 1) := by decide +kernel
theorem dX7_answering_6 : decode cX7_answering 6 = .ok (.getfield 7, 3) := by decide +kernel
theorem dX7_answering_9 : decode cX7_answering 9 = .ok (.iconst 5, 1) := by decide +kernel
theorem dX7_answering_10 : decode cX7_answering 10 = .ok (.iaload, 1) := by decide +kernel
theorem dX7_answering_11 : decode cX7_answering 11 = .ok (.if_icmp .ge 31, 3) := by decide +kernel
theorem dX7_answering_14 : decode cX7_answering 14 = .ok (.iload_n 2, 1) := by decide +kernel
theorem dX7_answering_15 : decode cX7_answering 15 = .ok (.aload_n 0, 1) := by decide +kernel
theorem dX7_answering_16 : decode cX7_answering 16 = .ok (.getfield 7, 3) := by decide +kernel
theorem dX7_answering_19 : decode cX7_answering 19 = .ok (.iload_n 3, 1) := by decide +kernel
theorem dX7_answering_20 : decode cX7_answering 20 = .ok (.iconst 5, 1) := by decide +kernel
theorem dX7_answering_21 : decode cX7_answering 21 = .ok (.invokestatic 47, 3) := by decide +kernel
theorem dX7_answering_24 : decode cX7_answering 24 = .ok (.iaload, 1) := by decide +kernel
theorem dX7_answering_25 : decode cX7_answering 25 = .ok (.iload_n 1, 1) := by decide +kernel
theorem dX7_answering_26 : decode cX7_answering 26 = .ok (.if_icmp .ne 7, 3) := by decide +kernel
theorem dX7_answering_29 : decode cX7_answering 29 = .ok (.iconst 1, 1) := by decide +kernel
theorem dX7_answering_30 : decode cX7_answering 30 = .ok (.goto 4, 3) := by decide +kernel
theorem dX7_answering_33 : decode cX7_answering 33 = .ok (.iconst 0, 1) := by decide +kernel
theorem dX7_answering_34 : decode cX7_answering 34 = .ok (.iadd, 1) := by decide +kernel
theorem dX7_answering_35 : decode cX7_answering 35 = .ok (.istore_n 2, 1) := by decide +kernel
theorem dX7_answering_36 : decode cX7_answering 36 = .ok (.iinc 3 1, 3) := by decide +kernel
theorem dX7_answering_39 : decode cX7_answering 39 = .ok (.goto (-35), 3) := by decide +kernel
theorem dX7_answering_42 : decode cX7_answering 42 = .ok (.iload_n 2, 1) := by decide +kernel
theorem dX7_answering_43 : decode cX7_answering 43 = .ok (.ireturn, 1) := by decide +kernel
set_option maxRecDepth 20000 in
theorem ggX7_depth_X7_ofL : GoodIn wsX7_depth wsX7_ofL := goodIn_r _ [5] (by decide +kernel) (by decide +kernel)
set_option maxRecDepth 20000 in
theorem gX7_depth_X7_ofL : GoodIn wsX7_depth (va_wsS RX7 47 yX7_ofL wsX7_ofL) := goodIn_app (goodIn_of _ (by decide +kernel)) ggX7_depth_X7_ofL
theorem dX7_depth_0 : decode cX7_depth 0 = .ok (.iconst 0, 1) := by decide +kernel
theorem dX7_depth_1 : decode cX7_depth 1 = .ok (.istore_n 2, 1) := by decide +kernel
theorem dX7_depth_2 : decode cX7_depth 2 = .ok (.iload_n 1, 1) := by decide +kernel
theorem dX7_depth_3 : decode cX7_depth 3 = .ok (.istore_n 3, 1) := by decide +kernel
theorem dX7_depth_4 : decode cX7_depth 4 = .ok (.aload_n 0, 1) := by decide +kernel
theorem dX7_depth_5 : decode cX7_depth 5 = .ok (.getfield 7, 3) := by decide +kernel
theorem dX7_depth_8 : decode cX7_depth 8 = .ok (.iload_n 3, 1) := by decide +kernel
theorem dX7_depth_9 : decode cX7_depth 9 = .ok (.iconst 5, 1) := by decide +kernel
theorem dX7_depth_10 : decode cX7_depth 10 = .ok (.invokestatic 47, 3) := by decide +kernel
theorem dX7_depth_13 : decode cX7_depth 13 = .ok (.iaload, 1) := by decide +kernel
theorem dX7_depth_14 : decode cX7_depth 14 = .ok (.bipush (-6), 2) := by decide +kernel
theorem dX7_depth_16 : decode cX7_depth 16 = .ok (.if_icmp .eq 20, 3) := by decide +kernel
theorem dX7_depth_19 : decode cX7_depth 19 = .ok (.aload_n 0, 1) := by decide +kernel
theorem dX7_depth_20 : decode cX7_depth 20 = .ok (.getfield 7, 3) := by decide +kernel
theorem dX7_depth_23 : decode cX7_depth 23 = .ok (.iload_n 3, 1) := by decide +kernel
theorem dX7_depth_24 : decode cX7_depth 24 = .ok (.iconst 5, 1) := by decide +kernel
theorem dX7_depth_25 : decode cX7_depth 25 = .ok (.invokestatic 47, 3) := by decide +kernel
theorem dX7_depth_28 : decode cX7_depth 28 = .ok (.iaload, 1) := by decide +kernel
theorem dX7_depth_29 : decode cX7_depth 29 = .ok (.istore_n 3, 1) := by decide +kernel
theorem dX7_depth_30 : decode cX7_depth 30 = .ok (.iinc 2 1, 3) := by decide +kernel
theorem dX7_depth_33 : decode cX7_depth 33 = .ok (.goto (-29), 3) := by decide +kernel
theorem dX7_depth_36 : decode cX7_depth 36 = .ok (.iload_n 2, 1) := by decide +kernel
theorem dX7_depth_37 : decode cX7_depth 37 = .ok (.ireturn, 1) := by decide +kernel
set_option maxRecDepth 20000 in
theorem ggX7_ofLetter_X7_isLetter : GoodIn wsX7_ofLetter wsX7_isLetter := goodIn_r _ [7, 1, 8, 9, 6, 10, 31, 32, 33, 34, 35, 36, 37, 38, 39, 40, 41, 42, 43, 44, 45, 46] (by decide +kernel) (by decide +kernel)
set_option maxRecDepth 20000 in
theorem gX7_ofLetter_X7_isLetter : GoodIn wsX7_ofLetter (wsV RX7 61 RX7 yX7_isLetter wsX7_isLetter) := goodIn_app (goodIn_of _ (by decide +kernel)) ggX7_ofLetter_X7_isLetter
set_option maxRecDepth 20000 in
theorem ggX7_ofLetter_X7_ofL : GoodIn wsX7_ofLetter wsX7_ofL := goodIn_r _ [13] (by decide +kernel) (by decide +kernel)
set_option maxRecDepth 20000 in
theorem gX7_ofLetter_X7_ofL : GoodIn wsX7_ofLetter (va_wsS RX7 47 yX7_ofL wsX7_ofL) := goodIn_app (goodIn_of _ (by decide +kernel)) ggX7_ofLetter_X7_ofL
set_option maxRecDepth 20000 in
theorem ggX7_ofLetter_X7_heat : GoodIn wsX7_ofLetter wsX7_heat := goodIn_r _ [17, 1, 11, 12, 6, 13, 31, 32, 33, 34, 35, 36, 37, 38, 39, 40, 41, 42, 43, 44, 45, 46] (by decide +kernel) (by decide +kernel)
set_option maxRecDepth 20000 in
theorem gX7_ofLetter_X7_heat : GoodIn wsX7_ofLetter (wsV RX7 50 RX7 yX7_heat wsX7_heat) := goodIn_app (goodIn_of _ (by decide +kernel)) ggX7_ofLetter_X7_heat
set_option maxRecDepth 20000 in
theorem ggX7_ofLetter_X7_findRegrets : GoodIn wsX7_ofLetter wsX7_findRegrets := goodIn_r _ [21, 22, 2, 1, 11, 12, 6, 13, 14, 15, 16, 17, 31, 32, 33, 34, 35, 36, 37, 38, 39, 40, 41, 42, 43, 44, 45, 46] (by decide +kernel) (by decide +kernel)
set_option maxRecDepth 20000 in
theorem gX7_ofLetter_X7_findRegrets : GoodIn wsX7_ofLetter (wsV RX7 101 RX7 yX7_findRegrets wsX7_findRegrets) := goodIn_app (goodIn_of _ (by decide +kernel)) ggX7_ofLetter_X7_findRegrets
set_option maxRecDepth 20000 in
theorem ggX7_ofLetter_X7_answering : GoodIn wsX7_ofLetter wsX7_answering := goodIn_r _ [26, 1, 11, 12, 6, 13, 31, 32, 33, 34, 35, 36, 37, 38, 39, 40, 41, 42, 43, 44, 45, 46] (by decide +kernel) (by decide +kernel)
set_option maxRecDepth 20000 in
theorem gX7_ofLetter_X7_answering : GoodIn wsX7_ofLetter (wsV RX7 104 RX7 yX7_answering wsX7_answering) := goodIn_app (goodIn_of _ (by decide +kernel)) ggX7_ofLetter_X7_answering
set_option maxRecDepth 20000 in
theorem ggX7_ofLetter_X7_depth : GoodIn wsX7_ofLetter wsX7_depth := goodIn_r _ [30, 1, 11, 12, 6, 13, 31, 32, 33, 34, 35, 36, 37, 38, 39, 40, 41, 42, 43, 44, 45, 46] (by decide +kernel) (by decide +kernel)
set_option maxRecDepth 20000 in
theorem gX7_ofLetter_X7_depth : GoodIn wsX7_ofLetter (wsV RX7 107 RX7 yX7_depth wsX7_depth) := goodIn_app (goodIn_of _ (by decide +kernel)) ggX7_ofLetter_X7_depth
theorem dX7_ofLetter_0 : decode cX7_ofLetter 0 = .ok (.aload_n 0, 1) := by decide +kernel
theorem dX7_ofLetter_1 : decode cX7_ofLetter 1 = .ok (.iload_n 1, 1) := by decide +kernel
theorem dX7_ofLetter_2 : decode cX7_ofLetter 2 = .ok (.invokevirtual 61, 3) := by decide +kernel
theorem dX7_ofLetter_5 : decode cX7_ofLetter 5 = .ok (.ifCond .ne 5, 3) := by decide +kernel
theorem dX7_ofLetter_8 : decode cX7_ofLetter 8 = .ok (.iconst (-1), 1) := by decide +kernel
theorem dX7_ofLetter_9 : decode cX7_ofLetter 9 = .ok (.ireturn, 1) := by decide +kernel
theorem dX7_ofLetter_10 : decode cX7_ofLetter 10 = .ok (.iload_n 2, 1) := by decide +kernel
theorem dX7_ofLetter_11 : decode cX7_ofLetter 11 = .ok (.tableswitch 108 0 9 #[53, 53, 64, 70, 70, 70, 70, 85, 96, 102], 53) := by decide +kernel
theorem dX7_ofLetter_64 : decode cX7_ofLetter 64 = .ok (.aload_n 0, 1) := by decide +kernel
theorem dX7_ofLetter_65 : decode cX7_ofLetter 65 = .ok (.getfield 7, 3) := by decide +kernel
theorem dX7_ofLetter_68 : decode cX7_ofLetter 68 = .ok (.iload_n 1, 1) := by decide +kernel
theorem dX7_ofLetter_69 : decode cX7_ofLetter 69 = .ok (.iload_n 2, 1) := by decide +kernel
theorem dX7_ofLetter_70 : decode cX7_ofLetter 70 = .ok (.invokestatic 47, 3) := by decide +kernel
theorem dX7_ofLetter_73 : decode cX7_ofLetter 73 = .ok (.iaload, 1) := by decide +kernel
theorem dX7_ofLetter_74 : decode cX7_ofLetter 74 = .ok (.ireturn, 1) := by decide +kernel
theorem dX7_ofLetter_75 : decode cX7_ofLetter 75 = .ok (.aload_n 0, 1) := by decide +kernel
theorem dX7_ofLetter_76 : decode cX7_ofLetter 76 = .ok (.iload_n 1, 1) := by decide +kernel
theorem dX7_ofLetter_77 : decode cX7_ofLetter 77 = .ok (.invokevirtual 50, 3) := by decide +kernel
theorem dX7_ofLetter_80 : decode cX7_ofLetter 80 = .ok (.ireturn, 1) := by decide +kernel
theorem dX7_ofLetter_81 : decode cX7_ofLetter 81 = .ok (.aload_n 0, 1) := by decide +kernel
theorem dX7_ofLetter_82 : decode cX7_ofLetter 82 = .ok (.getfield 7, 3) := by decide +kernel
theorem dX7_ofLetter_85 : decode cX7_ofLetter 85 = .ok (.iload_n 1, 1) := by decide +kernel
theorem dX7_ofLetter_86 : decode cX7_ofLetter 86 = .ok (.iconst 2, 1) := by decide +kernel
theorem dX7_ofLetter_87 : decode cX7_ofLetter 87 = .ok (.iload_n 2, 1) := by decide +kernel
theorem dX7_ofLetter_88 : decode cX7_ofLetter 88 = .ok (.iadd, 1) := by decide +kernel
theorem dX7_ofLetter_89 : decode cX7_ofLetter 89 = .ok (.iconst 3, 1) := by decide +kernel
theorem dX7_ofLetter_90 : decode cX7_ofLetter 90 = .ok (.isub, 1) := by decide +kernel
theorem dX7_ofLetter_91 : decode cX7_ofLetter 91 = .ok (.invokestatic 47, 3) := by decide +kernel
theorem dX7_ofLetter_94 : decode cX7_ofLetter 94 = .ok (.iaload, 1) := by decide +kernel
theorem dX7_ofLetter_95 : decode cX7_ofLetter 95 = .ok (.ireturn, 1) := by decide +kernel
theorem dX7_ofLetter_96 : decode cX7_ofLetter 96 = .ok (.aload_n 0, 1) := by decide +kernel
theorem dX7_ofLetter_97 : decode cX7_ofLetter 97 = .ok (.invokevirtual 101, 3) := by decide +kernel
theorem dX7_ofLetter_100 : decode cX7_ofLetter 100 = .ok (.aload_n 0, 1) := by decide +kernel
theorem dX7_ofLetter_101 : decode cX7_ofLetter 101 = .ok (.getfield 29, 3) := by decide +kernel
theorem dX7_ofLetter_104 : decode cX7_ofLetter 104 = .ok (.iload_n 1, 1) := by decide +kernel
theorem dX7_ofLetter_105 : decode cX7_ofLetter 105 = .ok (.iaload, 1) := by decide +kernel
theorem dX7_ofLetter_106 : decode cX7_ofLetter 106 = .ok (.ireturn, 1) := by decide +kernel
theorem dX7_ofLetter_107 : decode cX7_ofLetter 107 = .ok (.aload_n 0, 1) := by decide +kernel
theorem dX7_ofLetter_108 : decode cX7_ofLetter 108 = .ok (.iload_n 1, 1) := by decide +kernel
theorem dX7_ofLetter_109 : decode cX7_ofLetter 109 = .ok (.invokevirtual 104, 3) := by decide +kernel
theorem dX7_ofLetter_112 : decode cX7_ofLetter 112 = .ok (.ireturn, 1) := by decide +kernel
theorem dX7_ofLetter_113 : decode cX7_ofLetter 113 = .ok (.aload_n 0, 1) := by decide +kernel
theorem dX7_ofLetter_114 : decode cX7_ofLetter 114 = .ok (.iload_n 1, 1) := by decide +kernel
theorem dX7_ofLetter_115 : decode cX7_ofLetter 115 = .ok (.invokevirtual 107, 3) := by decide +kernel
theorem dX7_ofLetter_118 : decode cX7_ofLetter 118 = .ok (.ireturn, 1) := by decide +kernel
theorem dX7_ofLetter_119 : decode cX7_ofLetter 119 = .ok (.bipush (-2), 2) := by decide +kernel
theorem dX7_ofLetter_121 : decode cX7_ofLetter 121 = .ok (.ireturn, 1) := by decide +kernel
set_option maxRecDepth 20000 in
theorem ggX7_heatIn_X7_ofL : GoodIn wsX7_heatIn wsX7_ofL := goodIn_r _ [5] (by decide +kernel) (by decide +kernel)
set_option maxRecDepth 20000 in
theorem gX7_heatIn_X7_ofL : GoodIn wsX7_heatIn (va_wsS RX7 47 yX7_ofL wsX7_ofL) := goodIn_app (goodIn_of _ (by decide +kernel)) ggX7_heatIn_X7_ofL
set_option maxRecDepth 20000 in
theorem ggX7_heatIn_X7_heat : GoodIn wsX7_heatIn wsX7_heat := goodIn_r _ [9, 1, 2, 3, 4, 5, 10, 11, 12, 13, 14, 15, 16, 17, 18, 19, 20, 21, 22, 23, 24, 25] (by decide +kernel) (by decide +kernel)
set_option maxRecDepth 20000 in
theorem gX7_heatIn_X7_heat : GoodIn wsX7_heatIn (wsV RX7 50 RX7 yX7_heat wsX7_heat) := goodIn_app (goodIn_of _ (by decide +kernel)) ggX7_heatIn_X7_heat
theorem dX7_heatIn_0 : decode cX7_heatIn 0 = .ok (.iconst 0, 1) := by decide +kernel
theorem dX7_heatIn_1 : decode cX7_heatIn 1 = .ok (.istore_n 2, 1) := by decide +kernel
theorem dX7_heatIn_2 : decode cX7_heatIn 2 = .ok (.iconst 0, 1) := by decide +kernel
theorem dX7_heatIn_3 : decode cX7_heatIn 3 = .ok (.istore_n 3, 1) := by decide +kernel
theorem dX7_heatIn_4 : decode cX7_heatIn 4 = .ok (.iload_n 3, 1) := by decide +kernel
theorem dX7_heatIn_5 : decode cX7_heatIn 5 = .ok (.aload_n 0, 1) := by decide +kernel
theorem dX7_heatIn_6 : decode cX7_heatIn 6 = .ok (.getfield 7, 3) := by decide +kernel
theorem dX7_heatIn_9 : decode cX7_heatIn 9 = .ok (.iconst 5, 1) := by decide +kernel
theorem dX7_heatIn_10 : decode cX7_heatIn 10 = .ok (.iaload, 1) := by decide +kernel
theorem dX7_heatIn_11 : decode cX7_heatIn 11 = .ok (.if_icmp .ge 48, 3) := by decide +kernel
theorem dX7_heatIn_14 : decode cX7_heatIn 14 = .ok (.iload_n 2, 1) := by decide +kernel
theorem dX7_heatIn_15 : decode cX7_heatIn 15 = .ok (.aload_n 0, 1) := by decide +kernel
theorem dX7_heatIn_16 : decode cX7_heatIn 16 = .ok (.getfield 7, 3) := by decide +kernel
theorem dX7_heatIn_19 : decode cX7_heatIn 19 = .ok (.iload_n 3, 1) := by decide +kernel
theorem dX7_heatIn_20 : decode cX7_heatIn 20 = .ok (.iconst 0, 1) := by decide +kernel
theorem dX7_heatIn_21 : decode cX7_heatIn 21 = .ok (.invokestatic 47, 3) := by decide +kernel
theorem dX7_heatIn_24 : decode cX7_heatIn 24 = .ok (.iaload, 1) := by decide +kernel
theorem dX7_heatIn_25 : decode cX7_heatIn 25 = .ok (.iload_n 1, 1) := by decide +kernel
theorem dX7_heatIn_26 : decode cX7_heatIn 26 = .ok (.if_icmp .ne 24, 3) := by decide +kernel
theorem dX7_heatIn_29 : decode cX7_heatIn 29 = .ok (.aload_n 0, 1) := by decide +kernel
theorem dX7_heatIn_30 : decode cX7_heatIn 30 = .ok (.getfield 7, 3) := by decide +kernel
theorem dX7_heatIn_33 : decode cX7_heatIn 33 = .ok (.iload_n 3, 1) := by decide +kernel
theorem dX7_heatIn_34 : decode cX7_heatIn 34 = .ok (.iconst 3, 1) := by decide +kernel
theorem dX7_heatIn_35 : decode cX7_heatIn 35 = .ok (.invokestatic 47, 3) := by decide +kernel
theorem dX7_heatIn_38 : decode cX7_heatIn 38 = .ok (.iaload, 1) := by decide +kernel
theorem dX7_heatIn_39 : decode cX7_heatIn 39 = .ok (.ifCond .ne 11, 3) := by decide +kernel
theorem dX7_heatIn_42 : decode cX7_heatIn 42 = .ok (.aload_n 0, 1) := by decide +kernel
theorem dX7_heatIn_43 : decode cX7_heatIn 43 = .ok (.iload_n 3, 1) := by decide +kernel
theorem dX7_heatIn_44 : decode cX7_heatIn 44 = .ok (.invokevirtual 50, 3) := by decide +kernel
theorem dX7_heatIn_47 : decode cX7_heatIn 47 = .ok (.goto 4, 3) := by decide +kernel
theorem dX7_heatIn_50 : decode cX7_heatIn 50 = .ok (.iconst 0, 1) := by decide +kernel
theorem dX7_heatIn_51 : decode cX7_heatIn 51 = .ok (.iadd, 1) := by decide +kernel
theorem dX7_heatIn_52 : decode cX7_heatIn 52 = .ok (.istore_n 2, 1) := by decide +kernel
theorem dX7_heatIn_53 : decode cX7_heatIn 53 = .ok (.iinc 3 1, 3) := by decide +kernel
theorem dX7_heatIn_56 : decode cX7_heatIn 56 = .ok (.goto (-52), 3) := by decide +kernel
theorem dX7_heatIn_59 : decode cX7_heatIn 59 = .ok (.iload_n 2, 1) := by decide +kernel
theorem dX7_heatIn_60 : decode cX7_heatIn 60 = .ok (.ireturn, 1) := by decide +kernel
set_option maxRecDepth 20000 in
theorem ggX7_ofDrawer_X7_isMood : GoodIn wsX7_ofDrawer wsX7_isMood := goodIn_r _ [5, 6, 7, 4, 8] (by decide +kernel) (by decide +kernel)
set_option maxRecDepth 20000 in
theorem gX7_ofDrawer_X7_isMood : GoodIn wsX7_ofDrawer (va_wsS RX7 58 yX7_isMood wsX7_isMood) := goodIn_app (goodIn_of _ (by decide +kernel)) ggX7_ofDrawer_X7_isMood
set_option maxRecDepth 20000 in
theorem ggX7_ofDrawer_X7_many : GoodIn wsX7_ofDrawer wsX7_many := goodIn_r _ [12, 1, 13, 14, 4, 15, 27, 28, 29, 30, 31, 32, 33, 34, 35, 36, 37, 38, 39, 40, 41, 42] (by decide +kernel) (by decide +kernel)
set_option maxRecDepth 20000 in
theorem gX7_ofDrawer_X7_many : GoodIn wsX7_ofDrawer (wsV RX7 64 RX7 yX7_many wsX7_many) := goodIn_app (goodIn_of _ (by decide +kernel)) ggX7_ofDrawer_X7_many
set_option maxRecDepth 20000 in
theorem ggX7_ofDrawer_X7_ofD : GoodIn wsX7_ofDrawer wsX7_ofD := goodIn_r _ [18] (by decide +kernel) (by decide +kernel)
set_option maxRecDepth 20000 in
theorem gX7_ofDrawer_X7_ofD : GoodIn wsX7_ofDrawer (va_wsS RX7 35 yX7_ofD wsX7_ofD) := goodIn_app (goodIn_of _ (by decide +kernel)) ggX7_ofDrawer_X7_ofD
set_option maxRecDepth 20000 in
theorem ggX7_ofDrawer_X7_heatIn : GoodIn wsX7_ofDrawer wsX7_heatIn := goodIn_r _ [22, 1, 13, 14, 4, 15, 23, 24, 25, 26, 27, 28, 29, 30, 31, 32, 33, 34, 35, 36, 37, 38, 39, 40, 41, 42] (by decide +kernel) (by decide +kernel)
set_option maxRecDepth 20000 in
theorem gX7_ofDrawer_X7_heatIn : GoodIn wsX7_ofDrawer (wsV RX7 110 RX7 yX7_heatIn wsX7_heatIn) := goodIn_app (goodIn_of _ (by decide +kernel)) ggX7_ofDrawer_X7_heatIn
theorem dX7_ofDrawer_0 : decode cX7_ofDrawer 0 = .ok (.iload_n 1, 1) := by decide +kernel
theorem dX7_ofDrawer_1 : decode cX7_ofDrawer 1 = .ok (.invokestatic 58, 3) := by decide +kernel
theorem dX7_ofDrawer_4 : decode cX7_ofDrawer 4 = .ok (.ifCond .ne 5, 3) := by decide +kernel
theorem dX7_ofDrawer_7 : decode cX7_ofDrawer 7 = .ok (.iconst (-1), 1) := by decide +kernel
theorem dX7_ofDrawer_8 : decode cX7_ofDrawer 8 = .ok (.ireturn, 1) := by decide +kernel
theorem dX7_ofDrawer_9 : decode cX7_ofDrawer 9 = .ok (.iload_n 2, 1) := by decide +kernel
theorem dX7_ofDrawer_10 : decode cX7_ofDrawer 10 = .ok (.tableswitch 81 0 7 #[46, 53, 53, 53, 53, 66, 72, 72], 46) := by decide +kernel
theorem dX7_ofDrawer_56 : decode cX7_ofDrawer 56 = .ok (.aload_n 0, 1) := by decide +kernel
theorem dX7_ofDrawer_57 : decode cX7_ofDrawer 57 = .ok (.iload_n 1, 1) := by decide +kernel
theorem dX7_ofDrawer_58 : decode cX7_ofDrawer 58 = .ok (.iconst 0, 1) := by decide +kernel
theorem dX7_ofDrawer_59 : decode cX7_ofDrawer 59 = .ok (.invokevirtual 64, 3) := by decide +kernel
theorem dX7_ofDrawer_62 : decode cX7_ofDrawer 62 = .ok (.ireturn, 1) := by decide +kernel
theorem dX7_ofDrawer_63 : decode cX7_ofDrawer 63 = .ok (.aload_n 0, 1) := by decide +kernel
theorem dX7_ofDrawer_64 : decode cX7_ofDrawer 64 = .ok (.getfield 7, 3) := by decide +kernel
theorem dX7_ofDrawer_67 : decode cX7_ofDrawer 67 = .ok (.iload_n 1, 1) := by decide +kernel
theorem dX7_ofDrawer_68 : decode cX7_ofDrawer 68 = .ok (.iload_n 2, 1) := by decide +kernel
theorem dX7_ofDrawer_69 : decode cX7_ofDrawer 69 = .ok (.iconst 1, 1) := by decide +kernel
theorem dX7_ofDrawer_70 : decode cX7_ofDrawer 70 = .ok (.isub, 1) := by decide +kernel
theorem dX7_ofDrawer_71 : decode cX7_ofDrawer 71 = .ok (.invokestatic 35, 3) := by decide +kernel
theorem dX7_ofDrawer_74 : decode cX7_ofDrawer 74 = .ok (.iaload, 1) := by decide +kernel
theorem dX7_ofDrawer_75 : decode cX7_ofDrawer 75 = .ok (.ireturn, 1) := by decide +kernel
theorem dX7_ofDrawer_76 : decode cX7_ofDrawer 76 = .ok (.aload_n 0, 1) := by decide +kernel
theorem dX7_ofDrawer_77 : decode cX7_ofDrawer 77 = .ok (.iload_n 1, 1) := by decide +kernel
theorem dX7_ofDrawer_78 : decode cX7_ofDrawer 78 = .ok (.invokevirtual 110, 3) := by decide +kernel
theorem dX7_ofDrawer_81 : decode cX7_ofDrawer 81 = .ok (.ireturn, 1) := by decide +kernel
theorem dX7_ofDrawer_82 : decode cX7_ofDrawer 82 = .ok (.aload_n 0, 1) := by decide +kernel
theorem dX7_ofDrawer_83 : decode cX7_ofDrawer 83 = .ok (.iload_n 1, 1) := by decide +kernel
theorem dX7_ofDrawer_84 : decode cX7_ofDrawer 84 = .ok (.iload_n 2, 1) := by decide +kernel
theorem dX7_ofDrawer_85 : decode cX7_ofDrawer 85 = .ok (.iconst 5, 1) := by decide +kernel
theorem dX7_ofDrawer_86 : decode cX7_ofDrawer 86 = .ok (.isub, 1) := by decide +kernel
theorem dX7_ofDrawer_87 : decode cX7_ofDrawer 87 = .ok (.invokevirtual 64, 3) := by decide +kernel
theorem dX7_ofDrawer_90 : decode cX7_ofDrawer 90 = .ok (.ireturn, 1) := by decide +kernel
theorem dX7_ofDrawer_91 : decode cX7_ofDrawer 91 = .ok (.bipush (-2), 2) := by decide +kernel
theorem dX7_ofDrawer_93 : decode cX7_ofDrawer 93 = .ok (.ireturn, 1) := by decide +kernel
set_option maxRecDepth 20000 in
theorem ggX7_letters_X7_in : GoodIn wsX7_letters wsX7_in := goodIn_r _ [6] (by decide +kernel) (by decide +kernel)
set_option maxRecDepth 20000 in
theorem gX7_letters_X7_in : GoodIn wsX7_letters (va_wsS RX7 39 yX7_in wsX7_in) := goodIn_app (goodIn_of _ (by decide +kernel)) ggX7_letters_X7_in
set_option maxRecDepth 20000 in
theorem ggX7_letters_X7_wouldGo : GoodIn wsX7_letters wsX7_wouldGo := goodIn_r _ [10, 2, 11, 12, 5, 13, 14, 15, 16, 17, 18, 19, 20, 21, 22, 23, 24, 25, 26, 27, 28, 29, 30, 31, 32, 33, 34, 35, 36] (by decide +kernel) (by decide +kernel)
set_option maxRecDepth 20000 in
theorem gX7_letters_X7_wouldGo : GoodIn wsX7_letters (wsV RX7 54 RX7 yX7_wouldGo wsX7_wouldGo) := goodIn_app (goodIn_of _ (by decide +kernel)) ggX7_letters_X7_wouldGo
set_option maxRecDepth 20000 in
theorem ggX7_letters_X7_ofL : GoodIn wsX7_letters wsX7_ofL := goodIn_r _ [13] (by decide +kernel) (by decide +kernel)
set_option maxRecDepth 20000 in
theorem gX7_letters_X7_ofL : GoodIn wsX7_letters (va_wsS RX7 47 yX7_ofL wsX7_ofL) := goodIn_app (goodIn_of _ (by decide +kernel)) ggX7_letters_X7_ofL
theorem dX7_letters_0 : decode cX7_letters 0 = .ok (.iload_n 1, 1) := by decide +kernel
theorem dX7_letters_1 : decode cX7_letters 1 = .ok (.iconst 0, 1) := by decide +kernel
theorem dX7_letters_2 : decode cX7_letters 2 = .ok (.iconst 3, 1) := by decide +kernel
theorem dX7_letters_3 : decode cX7_letters 3 = .ok (.invokestatic 39, 3) := by decide +kernel
theorem dX7_letters_6 : decode cX7_letters 6 = .ok (.ifCond .ne 7, 3) := by decide +kernel
theorem dX7_letters_9 : decode cX7_letters 9 = .ok (.ldc2_w 113, 3) := by decide +kernel
theorem dX7_letters_12 : decode cX7_letters 12 = .ok (.lreturn, 1) := by decide +kernel
theorem dX7_letters_13 : decode cX7_letters 13 = .ok (.lconst 0, 1) := by decide +kernel
theorem dX7_letters_14 : decode cX7_letters 14 = .ok (.lstore_n 2, 1) := by decide +kernel
theorem dX7_letters_15 : decode cX7_letters 15 = .ok (.iconst 0, 1) := by decide +kernel
theorem dX7_letters_16 : decode cX7_letters 16 = .ok (.istore 4, 2) := by decide +kernel
theorem dX7_letters_18 : decode cX7_letters 18 = .ok (.iload 4, 2) := by decide +kernel
theorem dX7_letters_20 : decode cX7_letters 20 = .ok (.aload_n 0, 1) := by decide +kernel
theorem dX7_letters_21 : decode cX7_letters 21 = .ok (.getfield 7, 3) := by decide +kernel
theorem dX7_letters_24 : decode cX7_letters 24 = .ok (.iconst 5, 1) := by decide +kernel
theorem dX7_letters_25 : decode cX7_letters 25 = .ok (.iaload, 1) := by decide +kernel
theorem dX7_letters_26 : decode cX7_letters 26 = .ok (.if_icmp .ge 52, 3) := by decide +kernel
theorem dX7_letters_29 : decode cX7_letters 29 = .ok (.lload_n 2, 1) := by decide +kernel
theorem dX7_letters_30 : decode cX7_letters 30 = .ok (.iload_n 1, 1) := by decide +kernel
theorem dX7_letters_31 : decode cX7_letters 31 = .ok (.iconst 3, 1) := by decide +kernel
theorem dX7_letters_32 : decode cX7_letters 32 = .ok (.if_icmp .ne 15, 3) := by decide +kernel
theorem dX7_letters_35 : decode cX7_letters 35 = .ok (.aload_n 0, 1) := by decide +kernel
theorem dX7_letters_36 : decode cX7_letters 36 = .ok (.iload 4, 2) := by decide +kernel
theorem dX7_letters_38 : decode cX7_letters 38 = .ok (.invokevirtual 54, 3) := by decide +kernel
theorem dX7_letters_41 : decode cX7_letters 41 = .ok (.ifCond .eq 28, 3) := by decide +kernel
theorem dX7_letters_44 : decode cX7_letters 44 = .ok (.goto 18, 3) := by decide +kernel
theorem dX7_letters_47 : decode cX7_letters 47 = .ok (.aload_n 0, 1) := by decide +kernel
theorem dX7_letters_48 : decode cX7_letters 48 = .ok (.getfield 7, 3) := by decide +kernel
theorem dX7_letters_51 : decode cX7_letters 51 = .ok (.iload 4, 2) := by decide +kernel
theorem dX7_letters_53 : decode cX7_letters 53 = .ok (.iconst 3, 1) := by decide +kernel
theorem dX7_letters_54 : decode cX7_letters 54 = .ok (.invokestatic 47, 3) := by decide +kernel
theorem dX7_letters_57 : decode cX7_letters 57 = .ok (.iaload, 1) := by decide +kernel
theorem dX7_letters_58 : decode cX7_letters 58 = .ok (.iload_n 1, 1) := by decide +kernel
theorem dX7_letters_59 : decode cX7_letters 59 = .ok (.if_icmp .ne 10, 3) := by decide +kernel
theorem dX7_letters_62 : decode cX7_letters 62 = .ok (.lconst 1, 1) := by decide +kernel
theorem dX7_letters_63 : decode cX7_letters 63 = .ok (.iload 4, 2) := by decide +kernel
theorem dX7_letters_65 : decode cX7_letters 65 = .ok (.lshl, 1) := by decide +kernel
theorem dX7_letters_66 : decode cX7_letters 66 = .ok (.goto 4, 3) := by decide +kernel
theorem dX7_letters_69 : decode cX7_letters 69 = .ok (.lconst 0, 1) := by decide +kernel
theorem dX7_letters_70 : decode cX7_letters 70 = .ok (.lor, 1) := by decide +kernel
theorem dX7_letters_71 : decode cX7_letters 71 = .ok (.lstore_n 2, 1) := by decide +kernel
theorem dX7_letters_72 : decode cX7_letters 72 = .ok (.iinc 4 1, 3) := by decide +kernel
theorem dX7_letters_75 : decode cX7_letters 75 = .ok (.goto (-57), 3) := by decide +kernel
theorem dX7_letters_78 : decode cX7_letters 78 = .ok (.lload_n 2, 1) := by decide +kernel
theorem dX7_letters_79 : decode cX7_letters 79 = .ok (.lreturn, 1) := by decide +kernel
set_option maxRecDepth 20000 in
theorem ggX7_locked_X7_ofD : GoodIn wsX7_locked wsX7_ofD := goodIn_r _ [5] (by decide +kernel) (by decide +kernel)
set_option maxRecDepth 20000 in
theorem gX7_locked_X7_ofD : GoodIn wsX7_locked (va_wsS RX7 35 yX7_ofD wsX7_ofD) := goodIn_app (goodIn_of _ (by decide +kernel)) ggX7_locked_X7_ofD
theorem dX7_locked_0 : decode cX7_locked 0 = .ok (.iconst 0, 1) := by decide +kernel
theorem dX7_locked_1 : decode cX7_locked 1 = .ok (.istore_n 1, 1) := by decide +kernel
theorem dX7_locked_2 : decode cX7_locked 2 = .ok (.iconst 0, 1) := by decide +kernel
theorem dX7_locked_3 : decode cX7_locked 3 = .ok (.istore_n 2, 1) := by decide +kernel
theorem dX7_locked_4 : decode cX7_locked 4 = .ok (.iload_n 2, 1) := by decide +kernel
theorem dX7_locked_5 : decode cX7_locked 5 = .ok (.bipush 6, 2) := by decide +kernel
theorem dX7_locked_7 : decode cX7_locked 7 = .ok (.if_icmp .ge 22, 3) := by decide +kernel
theorem dX7_locked_10 : decode cX7_locked 10 = .ok (.iload_n 1, 1) := by decide +kernel
theorem dX7_locked_11 : decode cX7_locked 11 = .ok (.aload_n 0, 1) := by decide +kernel
theorem dX7_locked_12 : decode cX7_locked 12 = .ok (.getfield 7, 3) := by decide +kernel
theorem dX7_locked_15 : decode cX7_locked 15 = .ok (.iload_n 2, 1) := by decide +kernel
theorem dX7_locked_16 : decode cX7_locked 16 = .ok (.iconst 0, 1) := by decide +kernel
theorem dX7_locked_17 : decode cX7_locked 17 = .ok (.invokestatic 35, 3) := by decide +kernel
theorem dX7_locked_20 : decode cX7_locked 20 = .ok (.iaload, 1) := by decide +kernel
theorem dX7_locked_21 : decode cX7_locked 21 = .ok (.iadd, 1) := by decide +kernel
theorem dX7_locked_22 : decode cX7_locked 22 = .ok (.istore_n 1, 1) := by decide +kernel
theorem dX7_locked_23 : decode cX7_locked 23 = .ok (.iinc 2 1, 3) := by decide +kernel
theorem dX7_locked_26 : decode cX7_locked 26 = .ok (.goto (-22), 3) := by decide +kernel
theorem dX7_locked_29 : decode cX7_locked 29 = .ok (.iload_n 1, 1) := by decide +kernel
theorem dX7_locked_30 : decode cX7_locked 30 = .ok (.ireturn, 1) := by decide +kernel
set_option maxRecDepth 20000 in
theorem ggX7_count_X7_many : GoodIn wsX7_count wsX7_many := goodIn_r _ [8, 1, 9, 10, 7, 11, 19, 20, 21, 22, 23, 24, 25, 26, 27, 28, 29, 30, 31, 32, 33, 34] (by decide +kernel) (by decide +kernel)
set_option maxRecDepth 20000 in
theorem gX7_count_X7_many : GoodIn wsX7_count (wsV RX7 64 RX7 yX7_many wsX7_many) := goodIn_app (goodIn_of _ (by decide +kernel)) ggX7_count_X7_many
set_option maxRecDepth 20000 in
theorem ggX7_count_X7_locked : GoodIn wsX7_count wsX7_locked := goodIn_r _ [15, 1, 16, 17, 7, 18, 19, 20, 21, 22, 23, 24, 25, 26, 27, 28, 29, 30, 31, 32, 33, 34] (by decide +kernel) (by decide +kernel)
set_option maxRecDepth 20000 in
theorem gX7_count_X7_locked : GoodIn wsX7_count (wsV RX7 115 RX7 yX7_locked wsX7_locked) := goodIn_app (goodIn_of _ (by decide +kernel)) ggX7_count_X7_locked
theorem dX7_count_0 : decode cX7_count 0 = .ok (.iload_n 1, 1) := by decide +kernel
theorem dX7_count_1 : decode cX7_count 1 = .ok (.tableswitch 109 0 11 #[63, 63, 63, 72, 72, 72, 82, 87, 87, 87, 99, 104], 63) := by decide +kernel
theorem dX7_count_64 : decode cX7_count 64 = .ok (.aload_n 0, 1) := by decide +kernel
theorem dX7_count_65 : decode cX7_count 65 = .ok (.getfield 7, 3) := by decide +kernel
theorem dX7_count_68 : decode cX7_count 68 = .ok (.iconst 3, 1) := by decide +kernel
theorem dX7_count_69 : decode cX7_count 69 = .ok (.iload_n 1, 1) := by decide +kernel
theorem dX7_count_70 : decode cX7_count 70 = .ok (.iadd, 1) := by decide +kernel
theorem dX7_count_71 : decode cX7_count 71 = .ok (.iaload, 1) := by decide +kernel
theorem dX7_count_72 : decode cX7_count 72 = .ok (.ireturn, 1) := by decide +kernel
theorem dX7_count_73 : decode cX7_count 73 = .ok (.aload_n 0, 1) := by decide +kernel
theorem dX7_count_74 : decode cX7_count 74 = .ok (.bipush 6, 2) := by decide +kernel
theorem dX7_count_76 : decode cX7_count 76 = .ok (.iload_n 1, 1) := by decide +kernel
theorem dX7_count_77 : decode cX7_count 77 = .ok (.iconst 3, 1) := by decide +kernel
theorem dX7_count_78 : decode cX7_count 78 = .ok (.isub, 1) := by decide +kernel
theorem dX7_count_79 : decode cX7_count 79 = .ok (.invokevirtual 64, 3) := by decide +kernel
theorem dX7_count_82 : decode cX7_count 82 = .ok (.ireturn, 1) := by decide +kernel
theorem dX7_count_83 : decode cX7_count 83 = .ok (.aload_n 0, 1) := by decide +kernel
theorem dX7_count_84 : decode cX7_count 84 = .ok (.invokevirtual 115, 3) := by decide +kernel
theorem dX7_count_87 : decode cX7_count 87 = .ok (.ireturn, 1) := by decide +kernel
theorem dX7_count_88 : decode cX7_count 88 = .ok (.aload_n 0, 1) := by decide +kernel
theorem dX7_count_89 : decode cX7_count 89 = .ok (.getfield 7, 3) := by decide +kernel
theorem dX7_count_92 : decode cX7_count 92 = .ok (.iconst 0, 1) := by decide +kernel
theorem dX7_count_93 : decode cX7_count 93 = .ok (.iload_n 1, 1) := by decide +kernel
theorem dX7_count_94 : decode cX7_count 94 = .ok (.iadd, 1) := by decide +kernel
theorem dX7_count_95 : decode cX7_count 95 = .ok (.bipush 7, 2) := by decide +kernel
theorem dX7_count_97 : decode cX7_count 97 = .ok (.isub, 1) := by decide +kernel
theorem dX7_count_98 : decode cX7_count 98 = .ok (.iaload, 1) := by decide +kernel
theorem dX7_count_99 : decode cX7_count 99 = .ok (.ireturn, 1) := by decide +kernel
theorem dX7_count_100 : decode cX7_count 100 = .ok (.aload_n 0, 1) := by decide +kernel
theorem dX7_count_101 : decode cX7_count 101 = .ok (.getfield 119, 3) := by decide +kernel
theorem dX7_count_104 : decode cX7_count 104 = .ok (.ireturn, 1) := by decide +kernel
theorem dX7_count_105 : decode cX7_count 105 = .ok (.aload_n 0, 1) := by decide +kernel
theorem dX7_count_106 : decode cX7_count 106 = .ok (.getfield 43, 3) := by decide +kernel
theorem dX7_count_109 : decode cX7_count 109 = .ok (.ireturn, 1) := by decide +kernel
theorem dX7_count_110 : decode cX7_count 110 = .ok (.bipush (-2), 2) := by decide +kernel
theorem dX7_count_112 : decode cX7_count 112 = .ok (.ireturn, 1) := by decide +kernel
theorem dX7_bitsOf_0 : decode cX7_bitsOf 0 = .ok (.fload_n 0, 1) := by decide +kernel
theorem dX7_bitsOf_1 : decode cX7_bitsOf 1 = .ok (.fconst 0, 1) := by decide +kernel
theorem dX7_bitsOf_2 : decode cX7_bitsOf 2 = .ok (.fcmp .l, 1) := by decide +kernel
theorem dX7_bitsOf_3 : decode cX7_bitsOf 3 = .ok (.ifCond .ne 5, 3) := by decide +kernel
theorem dX7_bitsOf_6 : decode cX7_bitsOf 6 = .ok (.iconst 0, 1) := by decide +kernel
theorem dX7_bitsOf_7 : decode cX7_bitsOf 7 = .ok (.ireturn, 1) := by decide +kernel
theorem dX7_bitsOf_8 : decode cX7_bitsOf 8 = .ok (.bipush 127, 2) := by decide +kernel
theorem dX7_bitsOf_10 : decode cX7_bitsOf 10 = .ok (.istore_n 1, 1) := by decide +kernel
theorem dX7_bitsOf_11 : decode cX7_bitsOf 11 = .ok (.fload_n 0, 1) := by decide +kernel
theorem dX7_bitsOf_12 : decode cX7_bitsOf 12 = .ok (.fstore_n 2, 1) := by decide +kernel
theorem dX7_bitsOf_13 : decode cX7_bitsOf 13 = .ok (.fload_n 2, 1) := by decide +kernel
theorem dX7_bitsOf_14 : decode cX7_bitsOf 14 = .ok (.fconst 1, 1) := by decide +kernel
theorem dX7_bitsOf_15 : decode cX7_bitsOf 15 = .ok (.fcmp .g, 1) := by decide +kernel
theorem dX7_bitsOf_16 : decode cX7_bitsOf 16 = .ok (.ifCond .ge 13, 3) := by decide +kernel
theorem dX7_bitsOf_19 : decode cX7_bitsOf 19 = .ok (.fload_n 2, 1) := by decide +kernel
theorem dX7_bitsOf_20 : decode cX7_bitsOf 20 = .ok (.fconst 2, 1) := by decide +kernel
theorem dX7_bitsOf_21 : decode cX7_bitsOf 21 = .ok (.fmul, 1) := by decide +kernel
theorem dX7_bitsOf_22 : decode cX7_bitsOf 22 = .ok (.fstore_n 2, 1) := by decide +kernel
theorem dX7_bitsOf_23 : decode cX7_bitsOf 23 = .ok (.iinc 1 (-1), 3) := by decide +kernel
theorem dX7_bitsOf_26 : decode cX7_bitsOf 26 = .ok (.goto (-13), 3) := by decide +kernel
theorem dX7_bitsOf_29 : decode cX7_bitsOf 29 = .ok (.iload_n 1, 1) := by decide +kernel
theorem dX7_bitsOf_30 : decode cX7_bitsOf 30 = .ok (.ldc 122, 2) := by decide +kernel
theorem dX7_bitsOf_32 : decode cX7_bitsOf 32 = .ok (.imul, 1) := by decide +kernel
theorem dX7_bitsOf_33 : decode cX7_bitsOf 33 = .ok (.fload_n 2, 1) := by decide +kernel
theorem dX7_bitsOf_34 : decode cX7_bitsOf 34 = .ok (.fconst 1, 1) := by decide +kernel
theorem dX7_bitsOf_35 : decode cX7_bitsOf 35 = .ok (.fsub, 1) := by decide +kernel
theorem dX7_bitsOf_36 : decode cX7_bitsOf 36 = .ok (.ldc 123, 2) := by decide +kernel
theorem dX7_bitsOf_38 : decode cX7_bitsOf 38 = .ok (.fmul, 1) := by decide +kernel
theorem dX7_bitsOf_39 : decode cX7_bitsOf 39 = .ok (.f2i, 1) := by decide +kernel
theorem dX7_bitsOf_40 : decode cX7_bitsOf 40 = .ok (.iadd, 1) := by decide +kernel
theorem dX7_bitsOf_41 : decode cX7_bitsOf 41 = .ok (.ireturn, 1) := by decide +kernel
theorem dX7_bitsOfDouble_0 : decode cX7_bitsOfDouble 0 = .ok (.dload_n 0, 1) := by decide +kernel
theorem dX7_bitsOfDouble_1 : decode cX7_bitsOfDouble 1 = .ok (.dconst 0, 1) := by decide +kernel
theorem dX7_bitsOfDouble_2 : decode cX7_bitsOfDouble 2 = .ok (.dcmp .l, 1) := by decide +kernel
theorem dX7_bitsOfDouble_3 : decode cX7_bitsOfDouble 3 = .ok (.ifCond .ne 5, 3) := by decide +kernel
theorem dX7_bitsOfDouble_6 : decode cX7_bitsOfDouble 6 = .ok (.lconst 0, 1) := by decide +kernel
theorem dX7_bitsOfDouble_7 : decode cX7_bitsOfDouble 7 = .ok (.lreturn, 1) := by decide +kernel
theorem dX7_bitsOfDouble_8 : decode cX7_bitsOfDouble 8 = .ok (.ldc2_w 124, 3) := by decide +kernel
theorem dX7_bitsOfDouble_11 : decode cX7_bitsOfDouble 11 = .ok (.lstore_n 2, 1) := by decide +kernel
theorem dX7_bitsOfDouble_12 : decode cX7_bitsOfDouble 12 = .ok (.dload_n 0, 1) := by decide +kernel
theorem dX7_bitsOfDouble_13 : decode cX7_bitsOfDouble 13 = .ok (.dstore 4, 2) := by decide +kernel
theorem dX7_bitsOfDouble_15 : decode cX7_bitsOfDouble 15 = .ok (.dload 4, 2) := by decide +kernel
theorem dX7_bitsOfDouble_17 : decode cX7_bitsOfDouble 17 = .ok (.dconst 1, 1) := by decide +kernel
theorem dX7_bitsOfDouble_18 : decode cX7_bitsOfDouble 18 = .ok (.dcmp .g, 1) := by decide +kernel
theorem dX7_bitsOfDouble_19 : decode cX7_bitsOfDouble 19 = .ok (.ifCond .ge 18, 3) := by decide +kernel
theorem dX7_bitsOfDouble_22 : decode cX7_bitsOfDouble 22 = .ok (.dload 4, 2) := by decide +kernel
theorem dX7_bitsOfDouble_24 : decode cX7_bitsOfDouble 24 = .ok (.ldc2_w 126, 3) := by decide +kernel
theorem dX7_bitsOfDouble_27 : decode cX7_bitsOfDouble 27 = .ok (.dmul, 1) := by decide +kernel
theorem dX7_bitsOfDouble_28 : decode cX7_bitsOfDouble 28 = .ok (.dstore 4, 2) := by decide +kernel
theorem dX7_bitsOfDouble_30 : decode cX7_bitsOfDouble 30 = .ok (.lload_n 2, 1) := by decide +kernel
theorem dX7_bitsOfDouble_31 : decode cX7_bitsOfDouble 31 = .ok (.lconst 1, 1) := by decide +kernel
theorem dX7_bitsOfDouble_32 : decode cX7_bitsOfDouble 32 = .ok (.lsub, 1) := by decide +kernel
theorem dX7_bitsOfDouble_33 : decode cX7_bitsOfDouble 33 = .ok (.lstore_n 2, 1) := by decide +kernel
theorem dX7_bitsOfDouble_34 : decode cX7_bitsOfDouble 34 = .ok (.goto (-19), 3) := by decide +kernel
theorem dX7_bitsOfDouble_37 : decode cX7_bitsOfDouble 37 = .ok (.dload 4, 2) := by decide +kernel
theorem dX7_bitsOfDouble_39 : decode cX7_bitsOfDouble 39 = .ok (.ldc2_w 126, 3) := by decide +kernel
theorem dX7_bitsOfDouble_42 : decode cX7_bitsOfDouble 42 = .ok (.dcmp .l, 1) := by decide +kernel
theorem dX7_bitsOfDouble_43 : decode cX7_bitsOfDouble 43 = .ok (.ifCond .lt 18, 3) := by decide +kernel
theorem dX7_bitsOfDouble_46 : decode cX7_bitsOfDouble 46 = .ok (.dload 4, 2) := by decide +kernel
theorem dX7_bitsOfDouble_48 : decode cX7_bitsOfDouble 48 = .ok (.ldc2_w 128, 3) := by decide +kernel
theorem dX7_bitsOfDouble_51 : decode cX7_bitsOfDouble 51 = .ok (.dmul, 1) := by decide +kernel
theorem dX7_bitsOfDouble_52 : decode cX7_bitsOfDouble 52 = .ok (.dstore 4, 2) := by decide +kernel
theorem dX7_bitsOfDouble_54 : decode cX7_bitsOfDouble 54 = .ok (.lload_n 2, 1) := by decide +kernel
theorem dX7_bitsOfDouble_55 : decode cX7_bitsOfDouble 55 = .ok (.lconst 1, 1) := by decide +kernel
theorem dX7_bitsOfDouble_56 : decode cX7_bitsOfDouble 56 = .ok (.ladd, 1) := by decide +kernel
theorem dX7_bitsOfDouble_57 : decode cX7_bitsOfDouble 57 = .ok (.lstore_n 2, 1) := by decide +kernel
theorem dX7_bitsOfDouble_58 : decode cX7_bitsOfDouble 58 = .ok (.goto (-21), 3) := by decide +kernel
theorem dX7_bitsOfDouble_61 : decode cX7_bitsOfDouble 61 = .ok (.lload_n 2, 1) := by decide +kernel
theorem dX7_bitsOfDouble_62 : decode cX7_bitsOfDouble 62 = .ok (.ldc2_w 130, 3) := by decide +kernel
theorem dX7_bitsOfDouble_65 : decode cX7_bitsOfDouble 65 = .ok (.lmul, 1) := by decide +kernel
theorem dX7_bitsOfDouble_66 : decode cX7_bitsOfDouble 66 = .ok (.dload 4, 2) := by decide +kernel
theorem dX7_bitsOfDouble_68 : decode cX7_bitsOfDouble 68 = .ok (.dconst 1, 1) := by decide +kernel
theorem dX7_bitsOfDouble_69 : decode cX7_bitsOfDouble 69 = .ok (.dsub, 1) := by decide +kernel
theorem dX7_bitsOfDouble_70 : decode cX7_bitsOfDouble 70 = .ok (.ldc2_w 132, 3) := by decide +kernel
theorem dX7_bitsOfDouble_73 : decode cX7_bitsOfDouble 73 = .ok (.dmul, 1) := by decide +kernel
theorem dX7_bitsOfDouble_74 : decode cX7_bitsOfDouble 74 = .ok (.d2l, 1) := by decide +kernel
theorem dX7_bitsOfDouble_75 : decode cX7_bitsOfDouble 75 = .ok (.ladd, 1) := by decide +kernel
theorem dX7_bitsOfDouble_76 : decode cX7_bitsOfDouble 76 = .ok (.lreturn, 1) := by decide +kernel
set_option maxRecDepth 20000 in
theorem ggX7_meanHeat_X7_ofL : GoodIn wsX7_meanHeat wsX7_ofL := goodIn_r _ [5] (by decide +kernel) (by decide +kernel)
set_option maxRecDepth 20000 in
theorem gX7_meanHeat_X7_ofL : GoodIn wsX7_meanHeat (va_wsS RX7 47 yX7_ofL wsX7_ofL) := goodIn_app (goodIn_of _ (by decide +kernel)) ggX7_meanHeat_X7_ofL
set_option maxRecDepth 20000 in
theorem ggX7_meanHeat_X7_heat : GoodIn wsX7_meanHeat wsX7_heat := goodIn_r _ [9, 1, 2, 3, 4, 5, 22, 23, 24, 25, 26, 27, 28, 29, 30, 31, 32, 33, 34, 35, 36, 37] (by decide +kernel) (by decide +kernel)
set_option maxRecDepth 20000 in
theorem gX7_meanHeat_X7_heat : GoodIn wsX7_meanHeat (wsV RX7 50 RX7 yX7_heat wsX7_heat) := goodIn_app (goodIn_of _ (by decide +kernel)) ggX7_meanHeat_X7_heat
set_option maxRecDepth 20000 in
theorem ggX7_meanHeat_X7_many : GoodIn wsX7_meanHeat wsX7_many := goodIn_r _ [13, 1, 2, 3, 4, 5, 22, 23, 24, 25, 26, 27, 28, 29, 30, 31, 32, 33, 34, 35, 36, 37] (by decide +kernel) (by decide +kernel)
set_option maxRecDepth 20000 in
theorem gX7_meanHeat_X7_many : GoodIn wsX7_meanHeat (wsV RX7 64 RX7 yX7_many wsX7_many) := goodIn_app (goodIn_of _ (by decide +kernel)) ggX7_meanHeat_X7_many
set_option maxRecDepth 20000 in
theorem ggX7_meanHeat_X7_bitsOfDouble : GoodIn wsX7_meanHeat wsX7_bitsOfDouble := goodIn_r _ [16, 17, 18, 19, 20, 21] (by decide +kernel) (by decide +kernel)
set_option maxRecDepth 20000 in
theorem gX7_meanHeat_X7_bitsOfDouble : GoodIn wsX7_meanHeat (va_wsS RX7 134 yX7_bitsOfDouble wsX7_bitsOfDouble) := goodIn_app (goodIn_of _ (by decide +kernel)) ggX7_meanHeat_X7_bitsOfDouble
theorem dX7_meanHeat_0 : decode cX7_meanHeat 0 = .ok (.iconst 0, 1) := by decide +kernel
theorem dX7_meanHeat_1 : decode cX7_meanHeat 1 = .ok (.istore_n 1, 1) := by decide +kernel
theorem dX7_meanHeat_2 : decode cX7_meanHeat 2 = .ok (.iconst 0, 1) := by decide +kernel
theorem dX7_meanHeat_3 : decode cX7_meanHeat 3 = .ok (.istore_n 2, 1) := by decide +kernel
theorem dX7_meanHeat_4 : decode cX7_meanHeat 4 = .ok (.iload_n 2, 1) := by decide +kernel
theorem dX7_meanHeat_5 : decode cX7_meanHeat 5 = .ok (.aload_n 0, 1) := by decide +kernel
theorem dX7_meanHeat_6 : decode cX7_meanHeat 6 = .ok (.getfield 7, 3) := by decide +kernel
theorem dX7_meanHeat_9 : decode cX7_meanHeat 9 = .ok (.iconst 5, 1) := by decide +kernel
theorem dX7_meanHeat_10 : decode cX7_meanHeat 10 = .ok (.iaload, 1) := by decide +kernel
theorem dX7_meanHeat_11 : decode cX7_meanHeat 11 = .ok (.if_icmp .ge 35, 3) := by decide +kernel
theorem dX7_meanHeat_14 : decode cX7_meanHeat 14 = .ok (.iload_n 1, 1) := by decide +kernel
theorem dX7_meanHeat_15 : decode cX7_meanHeat 15 = .ok (.aload_n 0, 1) := by decide +kernel
theorem dX7_meanHeat_16 : decode cX7_meanHeat 16 = .ok (.getfield 7, 3) := by decide +kernel
theorem dX7_meanHeat_19 : decode cX7_meanHeat 19 = .ok (.iload_n 2, 1) := by decide +kernel
theorem dX7_meanHeat_20 : decode cX7_meanHeat 20 = .ok (.iconst 3, 1) := by decide +kernel
theorem dX7_meanHeat_21 : decode cX7_meanHeat 21 = .ok (.invokestatic 47, 3) := by decide +kernel
theorem dX7_meanHeat_24 : decode cX7_meanHeat 24 = .ok (.iaload, 1) := by decide +kernel
theorem dX7_meanHeat_25 : decode cX7_meanHeat 25 = .ok (.iconst 1, 1) := by decide +kernel
theorem dX7_meanHeat_26 : decode cX7_meanHeat 26 = .ok (.if_icmp .ne 11, 3) := by decide +kernel
theorem dX7_meanHeat_29 : decode cX7_meanHeat 29 = .ok (.aload_n 0, 1) := by decide +kernel
theorem dX7_meanHeat_30 : decode cX7_meanHeat 30 = .ok (.iload_n 2, 1) := by decide +kernel
theorem dX7_meanHeat_31 : decode cX7_meanHeat 31 = .ok (.invokevirtual 50, 3) := by decide +kernel
theorem dX7_meanHeat_34 : decode cX7_meanHeat 34 = .ok (.goto 4, 3) := by decide +kernel
theorem dX7_meanHeat_37 : decode cX7_meanHeat 37 = .ok (.iconst 0, 1) := by decide +kernel
theorem dX7_meanHeat_38 : decode cX7_meanHeat 38 = .ok (.iadd, 1) := by decide +kernel
theorem dX7_meanHeat_39 : decode cX7_meanHeat 39 = .ok (.istore_n 1, 1) := by decide +kernel
theorem dX7_meanHeat_40 : decode cX7_meanHeat 40 = .ok (.iinc 2 1, 3) := by decide +kernel
theorem dX7_meanHeat_43 : decode cX7_meanHeat 43 = .ok (.goto (-39), 3) := by decide +kernel
theorem dX7_meanHeat_46 : decode cX7_meanHeat 46 = .ok (.aload_n 0, 1) := by decide +kernel
theorem dX7_meanHeat_47 : decode cX7_meanHeat 47 = .ok (.bipush 6, 2) := by decide +kernel
theorem dX7_meanHeat_49 : decode cX7_meanHeat 49 = .ok (.iconst 1, 1) := by decide +kernel
theorem dX7_meanHeat_50 : decode cX7_meanHeat 50 = .ok (.invokevirtual 64, 3) := by decide +kernel
theorem dX7_meanHeat_53 : decode cX7_meanHeat 53 = .ok (.istore_n 2, 1) := by decide +kernel
theorem dX7_meanHeat_54 : decode cX7_meanHeat 54 = .ok (.iload_n 2, 1) := by decide +kernel
theorem dX7_meanHeat_55 : decode cX7_meanHeat 55 = .ok (.ifCond .ne 7, 3) := by decide +kernel
theorem dX7_meanHeat_58 : decode cX7_meanHeat 58 = .ok (.lconst 0, 1) := by decide +kernel
theorem dX7_meanHeat_59 : decode cX7_meanHeat 59 = .ok (.goto 11, 3) := by decide +kernel
theorem dX7_meanHeat_62 : decode cX7_meanHeat 62 = .ok (.iload_n 1, 1) := by decide +kernel
theorem dX7_meanHeat_63 : decode cX7_meanHeat 63 = .ok (.i2d, 1) := by decide +kernel
theorem dX7_meanHeat_64 : decode cX7_meanHeat 64 = .ok (.iload_n 2, 1) := by decide +kernel
theorem dX7_meanHeat_65 : decode cX7_meanHeat 65 = .ok (.i2d, 1) := by decide +kernel
theorem dX7_meanHeat_66 : decode cX7_meanHeat 66 = .ok (.ddiv, 1) := by decide +kernel
theorem dX7_meanHeat_67 : decode cX7_meanHeat 67 = .ok (.invokestatic 134, 3) := by decide +kernel
theorem dX7_meanHeat_70 : decode cX7_meanHeat 70 = .ok (.lreturn, 1) := by decide +kernel
set_option maxRecDepth 20000 in
theorem ggX7_share_X7_many : GoodIn wsX7_share wsX7_many := goodIn_r _ [6, 1, 7, 8, 5, 9, 15, 16, 17, 18, 19, 20, 21, 22, 23, 24, 25, 26, 27, 28, 29, 30] (by decide +kernel) (by decide +kernel)
set_option maxRecDepth 20000 in
theorem gX7_share_X7_many : GoodIn wsX7_share (wsV RX7 64 RX7 yX7_many wsX7_many) := goodIn_app (goodIn_of _ (by decide +kernel)) ggX7_share_X7_many
set_option maxRecDepth 20000 in
theorem ggX7_share_X7_bitsOf : GoodIn wsX7_share wsX7_bitsOf := goodIn_r _ [12, 13, 14] (by decide +kernel) (by decide +kernel)
set_option maxRecDepth 20000 in
theorem gX7_share_X7_bitsOf : GoodIn wsX7_share (va_wsS RX7 138 yX7_bitsOf wsX7_bitsOf) := goodIn_app (goodIn_of _ (by decide +kernel)) ggX7_share_X7_bitsOf
theorem dX7_share_0 : decode cX7_share 0 = .ok (.aload_n 0, 1) := by decide +kernel
theorem dX7_share_1 : decode cX7_share 1 = .ok (.getfield 7, 3) := by decide +kernel
theorem dX7_share_4 : decode cX7_share 4 = .ok (.iconst 5, 1) := by decide +kernel
theorem dX7_share_5 : decode cX7_share 5 = .ok (.iaload, 1) := by decide +kernel
theorem dX7_share_6 : decode cX7_share 6 = .ok (.ifCond .ne 8, 3) := by decide +kernel
theorem dX7_share_9 : decode cX7_share 9 = .ok (.bipush (-6), 2) := by decide +kernel
theorem dX7_share_11 : decode cX7_share 11 = .ok (.goto 22, 3) := by decide +kernel
theorem dX7_share_14 : decode cX7_share 14 = .ok (.aload_n 0, 1) := by decide +kernel
theorem dX7_share_15 : decode cX7_share 15 = .ok (.bipush 6, 2) := by decide +kernel
theorem dX7_share_17 : decode cX7_share 17 = .ok (.iconst 1, 1) := by decide +kernel
theorem dX7_share_18 : decode cX7_share 18 = .ok (.invokevirtual 64, 3) := by decide +kernel
theorem dX7_share_21 : decode cX7_share 21 = .ok (.i2f, 1) := by decide +kernel
theorem dX7_share_22 : decode cX7_share 22 = .ok (.aload_n 0, 1) := by decide +kernel
theorem dX7_share_23 : decode cX7_share 23 = .ok (.getfield 7, 3) := by decide +kernel
theorem dX7_share_26 : decode cX7_share 26 = .ok (.iconst 5, 1) := by decide +kernel
theorem dX7_share_27 : decode cX7_share 27 = .ok (.iaload, 1) := by decide +kernel
theorem dX7_share_28 : decode cX7_share 28 = .ok (.i2f, 1) := by decide +kernel
theorem dX7_share_29 : decode cX7_share 29 = .ok (.fdiv, 1) := by decide +kernel
theorem dX7_share_30 : decode cX7_share 30 = .ok (.invokestatic 138, 3) := by decide +kernel
theorem dX7_share_33 : decode cX7_share 33 = .ok (.ireturn, 1) := by decide +kernel
set_option maxRecDepth 20000 in
theorem ggX7_goesIn_X7_isLetter : GoodIn wsX7_goesIn wsX7_isLetter := goodIn_r _ [6, 1, 7, 8, 5, 9, 37, 38, 39, 40, 41, 42, 43, 44, 45, 46, 47, 48, 49, 50, 51, 52] (by decide +kernel) (by decide +kernel)
set_option maxRecDepth 20000 in
theorem gX7_goesIn_X7_isLetter : GoodIn wsX7_goesIn (wsV RX7 61 RX7 yX7_isLetter wsX7_isLetter) := goodIn_app (goodIn_of _ (by decide +kernel)) ggX7_goesIn_X7_isLetter
set_option maxRecDepth 20000 in
theorem ggX7_goesIn_X7_ofL : GoodIn wsX7_goesIn wsX7_ofL := goodIn_r _ [12] (by decide +kernel) (by decide +kernel)
set_option maxRecDepth 20000 in
theorem gX7_goesIn_X7_ofL : GoodIn wsX7_goesIn (va_wsS RX7 47 yX7_ofL wsX7_ofL) := goodIn_app (goodIn_of _ (by decide +kernel)) ggX7_goesIn_X7_ofL
set_option maxRecDepth 20000 in
theorem ggX7_goesIn_X7_putAside : GoodIn wsX7_goesIn wsX7_putAside := goodIn_r _ [16, 17, 1, 37, 38, 39, 40, 41, 42, 43, 44, 45, 46, 47, 48, 49, 50, 51, 52] (by decide +kernel) (by decide +kernel)
set_option maxRecDepth 20000 in
theorem gX7_goesIn_X7_putAside : GoodIn wsX7_goesIn (wsV RX7 142 RX7 yX7_putAside wsX7_putAside) := goodIn_app (goodIn_of _ (by decide +kernel)) ggX7_goesIn_X7_putAside
set_option maxRecDepth 20000 in
theorem ggX7_goesIn_X7_hour : GoodIn wsX7_goesIn wsX7_hour := goodIn_r _ [21, 1, 22, 23, 5, 24, 25, 26, 27, 28, 10, 11, 12, 29, 30, 31, 32, 37, 38, 39, 40, 41, 42, 43, 44, 45, 46, 47, 48, 49, 50, 51, 52] (by decide +kernel) (by decide +kernel)
set_option maxRecDepth 20000 in
theorem gX7_goesIn_X7_hour : GoodIn wsX7_goesIn (wsV RX7 67 RX7 yX7_hour wsX7_hour) := goodIn_app (goodIn_of _ (by decide +kernel)) ggX7_goesIn_X7_hour
set_option maxRecDepth 20000 in
theorem ggX7_goesIn_X7_putBack : GoodIn wsX7_goesIn wsX7_putBack := goodIn_r _ [36, 1, 17, 37, 38, 39, 40, 41, 42, 43, 44, 45, 46, 47, 48, 49, 50, 51, 52] (by decide +kernel) (by decide +kernel)
set_option maxRecDepth 20000 in
theorem gX7_goesIn_X7_putBack : GoodIn wsX7_goesIn (wsV RX7 145 RX7 yX7_putBack wsX7_putBack) := goodIn_app (goodIn_of _ (by decide +kernel)) ggX7_goesIn_X7_putBack
theorem dX7_goesIn_0 : decode cX7_goesIn 0 = .ok (.aload_n 0, 1) := by decide +kernel
theorem dX7_goesIn_1 : decode cX7_goesIn 1 = .ok (.iload_n 1, 1) := by decide +kernel
theorem dX7_goesIn_2 : decode cX7_goesIn 2 = .ok (.invokevirtual 61, 3) := by decide +kernel
theorem dX7_goesIn_5 : decode cX7_goesIn 5 = .ok (.ifCond .ne 5, 3) := by decide +kernel
theorem dX7_goesIn_8 : decode cX7_goesIn 8 = .ok (.iconst (-1), 1) := by decide +kernel
theorem dX7_goesIn_9 : decode cX7_goesIn 9 = .ok (.ireturn, 1) := by decide +kernel
theorem dX7_goesIn_10 : decode cX7_goesIn 10 = .ok (.aload_n 0, 1) := by decide +kernel
theorem dX7_goesIn_11 : decode cX7_goesIn 11 = .ok (.getfield 7, 3) := by decide +kernel
theorem dX7_goesIn_14 : decode cX7_goesIn 14 = .ok (.iload_n 1, 1) := by decide +kernel
theorem dX7_goesIn_15 : decode cX7_goesIn 15 = .ok (.iconst 3, 1) := by decide +kernel
theorem dX7_goesIn_16 : decode cX7_goesIn 16 = .ok (.invokestatic 47, 3) := by decide +kernel
theorem dX7_goesIn_19 : decode cX7_goesIn 19 = .ok (.iaload, 1) := by decide +kernel
theorem dX7_goesIn_20 : decode cX7_goesIn 20 = .ok (.iconst 2, 1) := by decide +kernel
theorem dX7_goesIn_21 : decode cX7_goesIn 21 = .ok (.if_icmp .ne 6, 3) := by decide +kernel
theorem dX7_goesIn_24 : decode cX7_goesIn 24 = .ok (.bipush (-5), 2) := by decide +kernel
theorem dX7_goesIn_26 : decode cX7_goesIn 26 = .ok (.ireturn, 1) := by decide +kernel
theorem dX7_goesIn_27 : decode cX7_goesIn 27 = .ok (.aload_n 0, 1) := by decide +kernel
theorem dX7_goesIn_28 : decode cX7_goesIn 28 = .ok (.invokevirtual 142, 3) := by decide +kernel
theorem dX7_goesIn_31 : decode cX7_goesIn 31 = .ok (.iconst 0, 1) := by decide +kernel
theorem dX7_goesIn_32 : decode cX7_goesIn 32 = .ok (.istore_n 2, 1) := by decide +kernel
theorem dX7_goesIn_33 : decode cX7_goesIn 33 = .ok (.iload_n 2, 1) := by decide +kernel
theorem dX7_goesIn_34 : decode cX7_goesIn 34 = .ok (.sipush 1200, 3) := by decide +kernel
theorem dX7_goesIn_37 : decode cX7_goesIn 37 = .ok (.if_icmp .ge 26, 3) := by decide +kernel
theorem dX7_goesIn_40 : decode cX7_goesIn 40 = .ok (.aload_n 0, 1) := by decide +kernel
theorem dX7_goesIn_41 : decode cX7_goesIn 41 = .ok (.getfield 7, 3) := by decide +kernel
theorem dX7_goesIn_44 : decode cX7_goesIn 44 = .ok (.iload_n 1, 1) := by decide +kernel
theorem dX7_goesIn_45 : decode cX7_goesIn 45 = .ok (.iconst 3, 1) := by decide +kernel
theorem dX7_goesIn_46 : decode cX7_goesIn 46 = .ok (.invokestatic 47, 3) := by decide +kernel
theorem dX7_goesIn_49 : decode cX7_goesIn 49 = .ok (.iaload, 1) := by decide +kernel
theorem dX7_goesIn_50 : decode cX7_goesIn 50 = .ok (.ifCond .ne 13, 3) := by decide +kernel
theorem dX7_goesIn_53 : decode cX7_goesIn 53 = .ok (.aload_n 0, 1) := by decide +kernel
theorem dX7_goesIn_54 : decode cX7_goesIn 54 = .ok (.invokevirtual 67, 3) := by decide +kernel
theorem dX7_goesIn_57 : decode cX7_goesIn 57 = .ok (.iinc 2 1, 3) := by decide +kernel
theorem dX7_goesIn_60 : decode cX7_goesIn 60 = .ok (.goto (-27), 3) := by decide +kernel
theorem dX7_goesIn_63 : decode cX7_goesIn 63 = .ok (.aload_n 0, 1) := by decide +kernel
theorem dX7_goesIn_64 : decode cX7_goesIn 64 = .ok (.getfield 7, 3) := by decide +kernel
theorem dX7_goesIn_67 : decode cX7_goesIn 67 = .ok (.iload_n 1, 1) := by decide +kernel
theorem dX7_goesIn_68 : decode cX7_goesIn 68 = .ok (.iconst 3, 1) := by decide +kernel
theorem dX7_goesIn_69 : decode cX7_goesIn 69 = .ok (.invokestatic 47, 3) := by decide +kernel
theorem dX7_goesIn_72 : decode cX7_goesIn 72 = .ok (.iaload, 1) := by decide +kernel
theorem dX7_goesIn_73 : decode cX7_goesIn 73 = .ok (.iconst 1, 1) := by decide +kernel
theorem dX7_goesIn_74 : decode cX7_goesIn 74 = .ok (.if_icmp .ne 7, 3) := by decide +kernel
theorem dX7_goesIn_77 : decode cX7_goesIn 77 = .ok (.iconst 1, 1) := by decide +kernel
theorem dX7_goesIn_78 : decode cX7_goesIn 78 = .ok (.goto 4, 3) := by decide +kernel
theorem dX7_goesIn_81 : decode cX7_goesIn 81 = .ok (.iconst 0, 1) := by decide +kernel
theorem dX7_goesIn_82 : decode cX7_goesIn 82 = .ok (.istore_n 3, 1) := by decide +kernel
theorem dX7_goesIn_83 : decode cX7_goesIn 83 = .ok (.aload_n 0, 1) := by decide +kernel
theorem dX7_goesIn_84 : decode cX7_goesIn 84 = .ok (.invokevirtual 145, 3) := by decide +kernel
theorem dX7_goesIn_87 : decode cX7_goesIn 87 = .ok (.iload_n 3, 1) := by decide +kernel
theorem dX7_goesIn_88 : decode cX7_goesIn 88 = .ok (.ifCond .eq 7, 3) := by decide +kernel
theorem dX7_goesIn_91 : decode cX7_goesIn 91 = .ok (.iload_n 2, 1) := by decide +kernel
theorem dX7_goesIn_92 : decode cX7_goesIn 92 = .ok (.goto 5, 3) := by decide +kernel
theorem dX7_goesIn_95 : decode cX7_goesIn 95 = .ok (.bipush (-6), 2) := by decide +kernel
theorem dX7_goesIn_97 : decode cX7_goesIn 97 = .ok (.ireturn, 1) := by decide +kernel
set_option maxRecDepth 20000 in
theorem ggX7_bestPost_X7_in : GoodIn wsX7_bestPost wsX7_in := goodIn_r _ [5] (by decide +kernel) (by decide +kernel)
set_option maxRecDepth 20000 in
theorem gX7_bestPost_X7_in : GoodIn wsX7_bestPost (va_wsS RX7 39 yX7_in wsX7_in) := goodIn_app (goodIn_of _ (by decide +kernel)) ggX7_bestPost_X7_in
set_option maxRecDepth 20000 in
theorem ggX7_bestPost_X7_putAside : GoodIn wsX7_bestPost wsX7_putAside := goodIn_r _ [9, 10, 1, 41, 42, 43, 44, 45, 46, 47, 48, 49, 50, 51, 52, 53, 54, 55, 56] (by decide +kernel) (by decide +kernel)
set_option maxRecDepth 20000 in
theorem gX7_bestPost_X7_putAside : GoodIn wsX7_bestPost (wsV RX7 142 RX7 yX7_putAside wsX7_putAside) := goodIn_app (goodIn_of _ (by decide +kernel)) ggX7_bestPost_X7_putAside
set_option maxRecDepth 20000 in
theorem ggX7_bestPost_X7_passes : GoodIn wsX7_bestPost wsX7_passes := goodIn_r _ [14, 15, 16, 17, 4, 18, 1, 19, 20, 21, 22, 23, 24, 25, 26, 27, 28, 29, 30, 31, 32, 33, 34, 35, 36, 41, 42, 43, 44, 45, 46, 47, 48, 49, 50, 51, 52, 53, 54, 55, 56] (by decide +kernel) (by decide +kernel)
set_option maxRecDepth 20000 in
theorem gX7_bestPost_X7_passes : GoodIn wsX7_bestPost (wsV RX7 98 RX7 yX7_passes wsX7_passes) := goodIn_app (goodIn_of _ (by decide +kernel)) ggX7_bestPost_X7_passes
set_option maxRecDepth 20000 in
theorem ggX7_bestPost_X7_putBack : GoodIn wsX7_bestPost wsX7_putBack := goodIn_r _ [40, 1, 10, 41, 42, 43, 44, 45, 46, 47, 48, 49, 50, 51, 52, 53, 54, 55, 56] (by decide +kernel) (by decide +kernel)
set_option maxRecDepth 20000 in
theorem gX7_bestPost_X7_putBack : GoodIn wsX7_bestPost (wsV RX7 145 RX7 yX7_putBack wsX7_putBack) := goodIn_app (goodIn_of _ (by decide +kernel)) ggX7_bestPost_X7_putBack
theorem dX7_bestPost_0 : decode cX7_bestPost 0 = .ok (.iload_n 1, 1) := by decide +kernel
theorem dX7_bestPost_1 : decode cX7_bestPost 1 = .ok (.iconst 1, 1) := by decide +kernel
theorem dX7_bestPost_2 : decode cX7_bestPost 2 = .ok (.bipush 20, 2) := by decide +kernel
theorem dX7_bestPost_4 : decode cX7_bestPost 4 = .ok (.invokestatic 39, 3) := by decide +kernel
theorem dX7_bestPost_7 : decode cX7_bestPost 7 = .ok (.ifCond .eq 12, 3) := by decide +kernel
theorem dX7_bestPost_10 : decode cX7_bestPost 10 = .ok (.iload_n 2, 1) := by decide +kernel
theorem dX7_bestPost_11 : decode cX7_bestPost 11 = .ok (.iconst 0, 1) := by decide +kernel
theorem dX7_bestPost_12 : decode cX7_bestPost 12 = .ok (.iconst 1, 1) := by decide +kernel
theorem dX7_bestPost_13 : decode cX7_bestPost 13 = .ok (.invokestatic 39, 3) := by decide +kernel
theorem dX7_bestPost_16 : decode cX7_bestPost 16 = .ok (.ifCond .ne 6, 3) := by decide +kernel
theorem dX7_bestPost_19 : decode cX7_bestPost 19 = .ok (.bipush (-2), 2) := by decide +kernel
theorem dX7_bestPost_21 : decode cX7_bestPost 21 = .ok (.ireturn, 1) := by decide +kernel
theorem dX7_bestPost_22 : decode cX7_bestPost 22 = .ok (.iconst 0, 1) := by decide +kernel
theorem dX7_bestPost_23 : decode cX7_bestPost 23 = .ok (.istore_n 3, 1) := by decide +kernel
theorem dX7_bestPost_24 : decode cX7_bestPost 24 = .ok (.iconst (-1), 1) := by decide +kernel
theorem dX7_bestPost_25 : decode cX7_bestPost 25 = .ok (.istore 4, 2) := by decide +kernel
theorem dX7_bestPost_27 : decode cX7_bestPost 27 = .ok (.aload_n 0, 1) := by decide +kernel
theorem dX7_bestPost_28 : decode cX7_bestPost 28 = .ok (.invokevirtual 142, 3) := by decide +kernel
theorem dX7_bestPost_31 : decode cX7_bestPost 31 = .ok (.iconst 0, 1) := by decide +kernel
theorem dX7_bestPost_32 : decode cX7_bestPost 32 = .ok (.istore 5, 2) := by decide +kernel
theorem dX7_bestPost_34 : decode cX7_bestPost 34 = .ok (.iload 5, 2) := by decide +kernel
theorem dX7_bestPost_36 : decode cX7_bestPost 36 = .ok (.bipush 24, 2) := by decide +kernel
theorem dX7_bestPost_38 : decode cX7_bestPost 38 = .ok (.if_icmp .ge 61, 3) := by decide +kernel
theorem dX7_bestPost_41 : decode cX7_bestPost 41 = .ok (.aload_n 0, 1) := by decide +kernel
theorem dX7_bestPost_42 : decode cX7_bestPost 42 = .ok (.getfield 7, 3) := by decide +kernel
theorem dX7_bestPost_45 : decode cX7_bestPost 45 = .ok (.iconst 0, 1) := by decide +kernel
theorem dX7_bestPost_46 : decode cX7_bestPost 46 = .ok (.iload 5, 2) := by decide +kernel
theorem dX7_bestPost_48 : decode cX7_bestPost 48 = .ok (.iastore, 1) := by decide +kernel
theorem dX7_bestPost_49 : decode cX7_bestPost 49 = .ok (.aload_n 0, 1) := by decide +kernel
theorem dX7_bestPost_50 : decode cX7_bestPost 50 = .ok (.bipush 24, 2) := by decide +kernel
theorem dX7_bestPost_52 : decode cX7_bestPost 52 = .ok (.iload_n 1, 1) := by decide +kernel
theorem dX7_bestPost_53 : decode cX7_bestPost 53 = .ok (.imul, 1) := by decide +kernel
theorem dX7_bestPost_54 : decode cX7_bestPost 54 = .ok (.invokevirtual 98, 3) := by decide +kernel
theorem dX7_bestPost_57 : decode cX7_bestPost 57 = .ok (.istore 6, 2) := by decide +kernel
theorem dX7_bestPost_59 : decode cX7_bestPost 59 = .ok (.iload 6, 2) := by decide +kernel
theorem dX7_bestPost_61 : decode cX7_bestPost 61 = .ok (.iload 4, 2) := by decide +kernel
theorem dX7_bestPost_63 : decode cX7_bestPost 63 = .ok (.if_icmp .le 8, 3) := by decide +kernel
theorem dX7_bestPost_66 : decode cX7_bestPost 66 = .ok (.iload 5, 2) := by decide +kernel
theorem dX7_bestPost_68 : decode cX7_bestPost 68 = .ok (.goto 4, 3) := by decide +kernel
theorem dX7_bestPost_71 : decode cX7_bestPost 71 = .ok (.iload_n 3, 1) := by decide +kernel
theorem dX7_bestPost_72 : decode cX7_bestPost 72 = .ok (.istore_n 3, 1) := by decide +kernel
theorem dX7_bestPost_73 : decode cX7_bestPost 73 = .ok (.iload 6, 2) := by decide +kernel
theorem dX7_bestPost_75 : decode cX7_bestPost 75 = .ok (.iload 4, 2) := by decide +kernel
theorem dX7_bestPost_77 : decode cX7_bestPost 77 = .ok (.if_icmp .le 8, 3) := by decide +kernel
theorem dX7_bestPost_80 : decode cX7_bestPost 80 = .ok (.iload 6, 2) := by decide +kernel
theorem dX7_bestPost_82 : decode cX7_bestPost 82 = .ok (.goto 5, 3) := by decide +kernel
theorem dX7_bestPost_85 : decode cX7_bestPost 85 = .ok (.iload 4, 2) := by decide +kernel
theorem dX7_bestPost_87 : decode cX7_bestPost 87 = .ok (.istore 4, 2) := by decide +kernel
theorem dX7_bestPost_89 : decode cX7_bestPost 89 = .ok (.aload_n 0, 1) := by decide +kernel
theorem dX7_bestPost_90 : decode cX7_bestPost 90 = .ok (.invokevirtual 145, 3) := by decide +kernel
theorem dX7_bestPost_93 : decode cX7_bestPost 93 = .ok (.iinc 5 1, 3) := by decide +kernel
theorem dX7_bestPost_96 : decode cX7_bestPost 96 = .ok (.goto (-62), 3) := by decide +kernel
theorem dX7_bestPost_99 : decode cX7_bestPost 99 = .ok (.iload_n 2, 1) := by decide +kernel
theorem dX7_bestPost_100 : decode cX7_bestPost 100 = .ok (.ifCond .ne 7, 3) := by decide +kernel
theorem dX7_bestPost_103 : decode cX7_bestPost 103 = .ok (.iload_n 3, 1) := by decide +kernel
theorem dX7_bestPost_104 : decode cX7_bestPost 104 = .ok (.goto 5, 3) := by decide +kernel
theorem dX7_bestPost_107 : decode cX7_bestPost 107 = .ok (.iload 4, 2) := by decide +kernel
theorem dX7_bestPost_109 : decode cX7_bestPost 109 = .ok (.ireturn, 1) := by decide +kernel
set_option maxRecDepth 20000 in
theorem ggX7_mostRegretted_X7_findRegrets : GoodIn wsX7_mostRegretted wsX7_findRegrets := goodIn_r _ [7, 8, 2, 1, 9, 10, 6, 11, 12, 13, 14, 15, 16, 17, 18, 19, 20, 21, 22, 23, 24, 25, 26, 27, 28, 29, 30, 31] (by decide +kernel) (by decide +kernel)
set_option maxRecDepth 20000 in
theorem gX7_mostRegretted_X7_findRegrets : GoodIn wsX7_mostRegretted (wsV RX7 101 RX7 yX7_findRegrets wsX7_findRegrets) := goodIn_app (goodIn_of _ (by decide +kernel)) ggX7_mostRegretted_X7_findRegrets
set_option maxRecDepth 20000 in
theorem ggX7_mostRegretted_X7_ofL : GoodIn wsX7_mostRegretted wsX7_ofL := goodIn_r _ [11] (by decide +kernel) (by decide +kernel)
set_option maxRecDepth 20000 in
theorem gX7_mostRegretted_X7_ofL : GoodIn wsX7_mostRegretted (va_wsS RX7 47 yX7_ofL wsX7_ofL) := goodIn_app (goodIn_of _ (by decide +kernel)) ggX7_mostRegretted_X7_ofL
theorem dX7_mostRegretted_0 : decode cX7_mostRegretted 0 = .ok (.aload_n 0, 1) := by decide +kernel
theorem dX7_mostRegretted_1 : decode cX7_mostRegretted 1 = .ok (.invokevirtual 101, 3) := by decide +kernel
theorem dX7_mostRegretted_4 : decode cX7_mostRegretted 4 = .ok (.bipush (-6), 2) := by decide +kernel
theorem dX7_mostRegretted_6 : decode cX7_mostRegretted 6 = .ok (.istore_n 1, 1) := by decide +kernel
theorem dX7_mostRegretted_7 : decode cX7_mostRegretted 7 = .ok (.iconst 0, 1) := by decide +kernel
theorem dX7_mostRegretted_8 : decode cX7_mostRegretted 8 = .ok (.istore_n 2, 1) := by decide +kernel
theorem dX7_mostRegretted_9 : decode cX7_mostRegretted 9 = .ok (.iload_n 2, 1) := by decide +kernel
theorem dX7_mostRegretted_10 : decode cX7_mostRegretted 10 = .ok (.aload_n 0, 1) := by decide +kernel
theorem dX7_mostRegretted_11 : decode cX7_mostRegretted 11 = .ok (.getfield 7, 3) := by decide +kernel
theorem dX7_mostRegretted_14 : decode cX7_mostRegretted 14 = .ok (.iconst 5, 1) := by decide +kernel
theorem dX7_mostRegretted_15 : decode cX7_mostRegretted 15 = .ok (.iaload, 1) := by decide +kernel
theorem dX7_mostRegretted_16 : decode cX7_mostRegretted 16 = .ok (.if_icmp .ge 60, 3) := by decide +kernel
theorem dX7_mostRegretted_19 : decode cX7_mostRegretted 19 = .ok (.aload_n 0, 1) := by decide +kernel
theorem dX7_mostRegretted_20 : decode cX7_mostRegretted 20 = .ok (.getfield 7, 3) := by decide +kernel
theorem dX7_mostRegretted_23 : decode cX7_mostRegretted 23 = .ok (.iload_n 2, 1) := by decide +kernel
theorem dX7_mostRegretted_24 : decode cX7_mostRegretted 24 = .ok (.iconst 3, 1) := by decide +kernel
theorem dX7_mostRegretted_25 : decode cX7_mostRegretted 25 = .ok (.invokestatic 47, 3) := by decide +kernel
theorem dX7_mostRegretted_28 : decode cX7_mostRegretted 28 = .ok (.iaload, 1) := by decide +kernel
theorem dX7_mostRegretted_29 : decode cX7_mostRegretted 29 = .ok (.iconst 1, 1) := by decide +kernel
theorem dX7_mostRegretted_30 : decode cX7_mostRegretted 30 = .ok (.if_icmp .ne 28, 3) := by decide +kernel
theorem dX7_mostRegretted_33 : decode cX7_mostRegretted 33 = .ok (.iload_n 1, 1) := by decide +kernel
theorem dX7_mostRegretted_34 : decode cX7_mostRegretted 34 = .ok (.bipush (-6), 2) := by decide +kernel
theorem dX7_mostRegretted_36 : decode cX7_mostRegretted 36 = .ok (.if_icmp .eq 18, 3) := by decide +kernel
theorem dX7_mostRegretted_39 : decode cX7_mostRegretted 39 = .ok (.aload_n 0, 1) := by decide +kernel
theorem dX7_mostRegretted_40 : decode cX7_mostRegretted 40 = .ok (.getfield 29, 3) := by decide +kernel
theorem dX7_mostRegretted_43 : decode cX7_mostRegretted 43 = .ok (.iload_n 2, 1) := by decide +kernel
theorem dX7_mostRegretted_44 : decode cX7_mostRegretted 44 = .ok (.iaload, 1) := by decide +kernel
theorem dX7_mostRegretted_45 : decode cX7_mostRegretted 45 = .ok (.aload_n 0, 1) := by decide +kernel
theorem dX7_mostRegretted_46 : decode cX7_mostRegretted 46 = .ok (.getfield 29, 3) := by decide +kernel
theorem dX7_mostRegretted_49 : decode cX7_mostRegretted 49 = .ok (.iload_n 1, 1) := by decide +kernel
theorem dX7_mostRegretted_50 : decode cX7_mostRegretted 50 = .ok (.iaload, 1) := by decide +kernel
theorem dX7_mostRegretted_51 : decode cX7_mostRegretted 51 = .ok (.if_icmp .le 7, 3) := by decide +kernel
theorem dX7_mostRegretted_54 : decode cX7_mostRegretted 54 = .ok (.iconst 1, 1) := by decide +kernel
theorem dX7_mostRegretted_55 : decode cX7_mostRegretted 55 = .ok (.goto 4, 3) := by decide +kernel
theorem dX7_mostRegretted_58 : decode cX7_mostRegretted 58 = .ok (.iconst 0, 1) := by decide +kernel
theorem dX7_mostRegretted_59 : decode cX7_mostRegretted 59 = .ok (.istore_n 3, 1) := by decide +kernel
theorem dX7_mostRegretted_60 : decode cX7_mostRegretted 60 = .ok (.iload_n 3, 1) := by decide +kernel
theorem dX7_mostRegretted_61 : decode cX7_mostRegretted 61 = .ok (.ifCond .eq 7, 3) := by decide +kernel
theorem dX7_mostRegretted_64 : decode cX7_mostRegretted 64 = .ok (.iload_n 2, 1) := by decide +kernel
theorem dX7_mostRegretted_65 : decode cX7_mostRegretted 65 = .ok (.goto 4, 3) := by decide +kernel
theorem dX7_mostRegretted_68 : decode cX7_mostRegretted 68 = .ok (.iload_n 1, 1) := by decide +kernel
theorem dX7_mostRegretted_69 : decode cX7_mostRegretted 69 = .ok (.istore_n 1, 1) := by decide +kernel
theorem dX7_mostRegretted_70 : decode cX7_mostRegretted 70 = .ok (.iinc 2 1, 3) := by decide +kernel
theorem dX7_mostRegretted_73 : decode cX7_mostRegretted 73 = .ok (.goto (-64), 3) := by decide +kernel
theorem dX7_mostRegretted_76 : decode cX7_mostRegretted 76 = .ok (.iload_n 1, 1) := by decide +kernel
theorem dX7_mostRegretted_77 : decode cX7_mostRegretted 77 = .ok (.ireturn, 1) := by decide +kernel
set_option maxRecDepth 20000 in
theorem ggX7_ifSent_X7_isLetter : GoodIn wsX7_ifSent wsX7_isLetter := goodIn_r _ [6, 1, 7, 8, 5, 9, 44, 45, 46, 47, 48, 49, 50, 51, 52, 53, 54, 55, 56, 57, 58, 59] (by decide +kernel) (by decide +kernel)
set_option maxRecDepth 20000 in
theorem gX7_ifSent_X7_isLetter : GoodIn wsX7_ifSent (wsV RX7 61 RX7 yX7_isLetter wsX7_isLetter) := goodIn_app (goodIn_of _ (by decide +kernel)) ggX7_ifSent_X7_isLetter
set_option maxRecDepth 20000 in
theorem ggX7_ifSent_X7_ofL : GoodIn wsX7_ifSent wsX7_ofL := goodIn_r _ [12] (by decide +kernel) (by decide +kernel)
set_option maxRecDepth 20000 in
theorem gX7_ifSent_X7_ofL : GoodIn wsX7_ifSent (va_wsS RX7 47 yX7_ofL wsX7_ofL) := goodIn_app (goodIn_of _ (by decide +kernel)) ggX7_ifSent_X7_ofL
set_option maxRecDepth 20000 in
theorem ggX7_ifSent_X7_putAside : GoodIn wsX7_ifSent wsX7_putAside := goodIn_r _ [16, 17, 1, 44, 45, 46, 47, 48, 49, 50, 51, 52, 53, 54, 55, 56, 57, 58, 59] (by decide +kernel) (by decide +kernel)
set_option maxRecDepth 20000 in
theorem gX7_ifSent_X7_putAside : GoodIn wsX7_ifSent (wsV RX7 142 RX7 yX7_putAside wsX7_putAside) := goodIn_app (goodIn_of _ (by decide +kernel)) ggX7_ifSent_X7_putAside
set_option maxRecDepth 20000 in
theorem ggX7_ifSent_X7_heat : GoodIn wsX7_ifSent wsX7_heat := goodIn_r _ [21, 1, 10, 11, 5, 12, 44, 45, 46, 47, 48, 49, 50, 51, 52, 53, 54, 55, 56, 57, 58, 59] (by decide +kernel) (by decide +kernel)
set_option maxRecDepth 20000 in
theorem gX7_ifSent_X7_heat : GoodIn wsX7_ifSent (wsV RX7 50 RX7 yX7_heat wsX7_heat) := goodIn_app (goodIn_of _ (by decide +kernel)) ggX7_ifSent_X7_heat
set_option maxRecDepth 20000 in
theorem ggX7_ifSent_X7_ofLetter : GoodIn wsX7_ifSent wsX7_ofLetter := goodIn_r _ [25, 1, 26, 2, 3, 4, 5, 6, 7, 8, 9, 10, 11, 12, 18, 19, 20, 21, 27, 28, 29, 30, 31, 32, 33, 34, 35, 36, 37, 38, 39, 44, 45, 46, 47, 48, 49, 50, 51, 52, 53, 54, 55, 56, 57, 58, 59] (by decide +kernel) (by decide +kernel)
set_option maxRecDepth 20000 in
theorem gX7_ifSent_X7_ofLetter : GoodIn wsX7_ifSent (wsV RX7 148 RX7 yX7_ofLetter wsX7_ofLetter) := goodIn_app (goodIn_of _ (by decide +kernel)) ggX7_ifSent_X7_ofLetter
set_option maxRecDepth 20000 in
theorem ggX7_ifSent_X7_putBack : GoodIn wsX7_ifSent wsX7_putBack := goodIn_r _ [43, 1, 17, 44, 45, 46, 47, 48, 49, 50, 51, 52, 53, 54, 55, 56, 57, 58, 59] (by decide +kernel) (by decide +kernel)
set_option maxRecDepth 20000 in
theorem gX7_ifSent_X7_putBack : GoodIn wsX7_ifSent (wsV RX7 145 RX7 yX7_putBack wsX7_putBack) := goodIn_app (goodIn_of _ (by decide +kernel)) ggX7_ifSent_X7_putBack
theorem dX7_ifSent_0 : decode cX7_ifSent 0 = .ok (.aload_n 0, 1) := by decide +kernel
theorem dX7_ifSent_1 : decode cX7_ifSent 1 = .ok (.iload_n 1, 1) := by decide +kernel
theorem dX7_ifSent_2 : decode cX7_ifSent 2 = .ok (.invokevirtual 61, 3) := by decide +kernel
theorem dX7_ifSent_5 : decode cX7_ifSent 5 = .ok (.ifCond .eq 11, 3) := by decide +kernel
theorem dX7_ifSent_8 : decode cX7_ifSent 8 = .ok (.aload_n 0, 1) := by decide +kernel
theorem dX7_ifSent_9 : decode cX7_ifSent 9 = .ok (.iload_n 2, 1) := by decide +kernel
theorem dX7_ifSent_10 : decode cX7_ifSent 10 = .ok (.invokevirtual 61, 3) := by decide +kernel
theorem dX7_ifSent_13 : decode cX7_ifSent 13 = .ok (.ifCond .ne 5, 3) := by decide +kernel
theorem dX7_ifSent_16 : decode cX7_ifSent 16 = .ok (.iconst (-1), 1) := by decide +kernel
theorem dX7_ifSent_17 : decode cX7_ifSent 17 = .ok (.ireturn, 1) := by decide +kernel
theorem dX7_ifSent_18 : decode cX7_ifSent 18 = .ok (.aload_n 0, 1) := by decide +kernel
theorem dX7_ifSent_19 : decode cX7_ifSent 19 = .ok (.getfield 7, 3) := by decide +kernel
theorem dX7_ifSent_22 : decode cX7_ifSent 22 = .ok (.iload_n 1, 1) := by decide +kernel
theorem dX7_ifSent_23 : decode cX7_ifSent 23 = .ok (.iconst 3, 1) := by decide +kernel
theorem dX7_ifSent_24 : decode cX7_ifSent 24 = .ok (.invokestatic 47, 3) := by decide +kernel
theorem dX7_ifSent_27 : decode cX7_ifSent 27 = .ok (.iaload, 1) := by decide +kernel
theorem dX7_ifSent_28 : decode cX7_ifSent 28 = .ok (.iconst 1, 1) := by decide +kernel
theorem dX7_ifSent_29 : decode cX7_ifSent 29 = .ok (.if_icmp .ne 16, 3) := by decide +kernel
theorem dX7_ifSent_32 : decode cX7_ifSent 32 = .ok (.aload_n 0, 1) := by decide +kernel
theorem dX7_ifSent_33 : decode cX7_ifSent 33 = .ok (.getfield 7, 3) := by decide +kernel
theorem dX7_ifSent_36 : decode cX7_ifSent 36 = .ok (.iload_n 2, 1) := by decide +kernel
theorem dX7_ifSent_37 : decode cX7_ifSent 37 = .ok (.iconst 3, 1) := by decide +kernel
theorem dX7_ifSent_38 : decode cX7_ifSent 38 = .ok (.invokestatic 47, 3) := by decide +kernel
theorem dX7_ifSent_41 : decode cX7_ifSent 41 = .ok (.iaload, 1) := by decide +kernel
theorem dX7_ifSent_42 : decode cX7_ifSent 42 = .ok (.ifCond .eq 6, 3) := by decide +kernel
theorem dX7_ifSent_45 : decode cX7_ifSent 45 = .ok (.bipush (-5), 2) := by decide +kernel
theorem dX7_ifSent_47 : decode cX7_ifSent 47 = .ok (.ireturn, 1) := by decide +kernel
theorem dX7_ifSent_48 : decode cX7_ifSent 48 = .ok (.aload_n 0, 1) := by decide +kernel
theorem dX7_ifSent_49 : decode cX7_ifSent 49 = .ok (.invokevirtual 142, 3) := by decide +kernel
theorem dX7_ifSent_52 : decode cX7_ifSent 52 = .ok (.aload_n 0, 1) := by decide +kernel
theorem dX7_ifSent_53 : decode cX7_ifSent 53 = .ok (.getfield 7, 3) := by decide +kernel
theorem dX7_ifSent_56 : decode cX7_ifSent 56 = .ok (.iload_n 2, 1) := by decide +kernel
theorem dX7_ifSent_57 : decode cX7_ifSent 57 = .ok (.bipush 6, 2) := by decide +kernel
theorem dX7_ifSent_59 : decode cX7_ifSent 59 = .ok (.invokestatic 47, 3) := by decide +kernel
theorem dX7_ifSent_62 : decode cX7_ifSent 62 = .ok (.aload_n 0, 1) := by decide +kernel
theorem dX7_ifSent_63 : decode cX7_ifSent 63 = .ok (.iload_n 2, 1) := by decide +kernel
theorem dX7_ifSent_64 : decode cX7_ifSent 64 = .ok (.invokevirtual 50, 3) := by decide +kernel
theorem dX7_ifSent_67 : decode cX7_ifSent 67 = .ok (.iastore, 1) := by decide +kernel
theorem dX7_ifSent_68 : decode cX7_ifSent 68 = .ok (.aload_n 0, 1) := by decide +kernel
theorem dX7_ifSent_69 : decode cX7_ifSent 69 = .ok (.getfield 7, 3) := by decide +kernel
theorem dX7_ifSent_72 : decode cX7_ifSent 72 = .ok (.iload_n 2, 1) := by decide +kernel
theorem dX7_ifSent_73 : decode cX7_ifSent 73 = .ok (.iconst 3, 1) := by decide +kernel
theorem dX7_ifSent_74 : decode cX7_ifSent 74 = .ok (.invokestatic 47, 3) := by decide +kernel
theorem dX7_ifSent_77 : decode cX7_ifSent 77 = .ok (.iconst 1, 1) := by decide +kernel
theorem dX7_ifSent_78 : decode cX7_ifSent 78 = .ok (.iastore, 1) := by decide +kernel
theorem dX7_ifSent_79 : decode cX7_ifSent 79 = .ok (.aload_n 0, 1) := by decide +kernel
theorem dX7_ifSent_80 : decode cX7_ifSent 80 = .ok (.iload_n 1, 1) := by decide +kernel
theorem dX7_ifSent_81 : decode cX7_ifSent 81 = .ok (.bipush 7, 2) := by decide +kernel
theorem dX7_ifSent_83 : decode cX7_ifSent 83 = .ok (.invokevirtual 148, 3) := by decide +kernel
theorem dX7_ifSent_86 : decode cX7_ifSent 86 = .ok (.istore_n 3, 1) := by decide +kernel
theorem dX7_ifSent_87 : decode cX7_ifSent 87 = .ok (.aload_n 0, 1) := by decide +kernel
theorem dX7_ifSent_88 : decode cX7_ifSent 88 = .ok (.invokevirtual 145, 3) := by decide +kernel
theorem dX7_ifSent_91 : decode cX7_ifSent 91 = .ok (.iload_n 3, 1) := by decide +kernel
theorem dX7_ifSent_92 : decode cX7_ifSent 92 = .ok (.ireturn, 1) := by decide +kernel
set_option maxRecDepth 20000 in
theorem ggX7_put_X7_in : GoodIn wsX7_put wsX7_in := goodIn_r _ [7] (by decide +kernel) (by decide +kernel)
set_option maxRecDepth 20000 in
theorem gX7_put_X7_in : GoodIn wsX7_put (va_wsS RX7 39 yX7_in wsX7_in) := goodIn_app (goodIn_of _ (by decide +kernel)) ggX7_put_X7_in
theorem dX7_put_0 : decode cX7_put 0 = .ok (.iconst 0, 1) := by decide +kernel
theorem dX7_put_1 : decode cX7_put 1 = .ok (.istore_n 3, 1) := by decide +kernel
theorem dX7_put_2 : decode cX7_put 2 = .ok (.iconst 0, 1) := by decide +kernel
theorem dX7_put_3 : decode cX7_put 3 = .ok (.istore 4, 2) := by decide +kernel
theorem dX7_put_5 : decode cX7_put 5 = .ok (.iconst 0, 1) := by decide +kernel
theorem dX7_put_6 : decode cX7_put 6 = .ok (.istore 5, 2) := by decide +kernel
theorem dX7_put_8 : decode cX7_put 8 = .ok (.iload 5, 2) := by decide +kernel
theorem dX7_put_10 : decode cX7_put 10 = .ok (.bipush 8, 2) := by decide +kernel
theorem dX7_put_12 : decode cX7_put 12 = .ok (.if_icmp .ge 89, 3) := by decide +kernel
theorem dX7_put_15 : decode cX7_put 15 = .ok (.lload_n 1, 1) := by decide +kernel
theorem dX7_put_16 : decode cX7_put 16 = .ok (.bipush 8, 2) := by decide +kernel
theorem dX7_put_18 : decode cX7_put 18 = .ok (.iload 5, 2) := by decide +kernel
theorem dX7_put_20 : decode cX7_put 20 = .ok (.imul, 1) := by decide +kernel
theorem dX7_put_21 : decode cX7_put 21 = .ok (.lushr, 1) := by decide +kernel
theorem dX7_put_22 : decode cX7_put 22 = .ok (.ldc2_w 151, 3) := by decide +kernel
theorem dX7_put_25 : decode cX7_put 25 = .ok (.land, 1) := by decide +kernel
theorem dX7_put_26 : decode cX7_put 26 = .ok (.l2i, 1) := by decide +kernel
theorem dX7_put_27 : decode cX7_put 27 = .ok (.istore 6, 2) := by decide +kernel
theorem dX7_put_29 : decode cX7_put 29 = .ok (.iload 5, 2) := by decide +kernel
theorem dX7_put_31 : decode cX7_put 31 = .ok (.ifCond .le 19, 3) := by decide +kernel
theorem dX7_put_34 : decode cX7_put 34 = .ok (.lload_n 1, 1) := by decide +kernel
theorem dX7_put_35 : decode cX7_put 35 = .ok (.bipush 8, 2) := by decide +kernel
theorem dX7_put_37 : decode cX7_put 37 = .ok (.iload 5, 2) := by decide +kernel
theorem dX7_put_39 : decode cX7_put 39 = .ok (.imul, 1) := by decide +kernel
theorem dX7_put_40 : decode cX7_put 40 = .ok (.lushr, 1) := by decide +kernel
theorem dX7_put_41 : decode cX7_put 41 = .ok (.lconst 0, 1) := by decide +kernel
theorem dX7_put_42 : decode cX7_put 42 = .ok (.lcmp, 1) := by decide +kernel
theorem dX7_put_43 : decode cX7_put 43 = .ok (.ifCond .ne 7, 3) := by decide +kernel
theorem dX7_put_46 : decode cX7_put 46 = .ok (.iconst 1, 1) := by decide +kernel
theorem dX7_put_47 : decode cX7_put 47 = .ok (.goto 4, 3) := by decide +kernel
theorem dX7_put_50 : decode cX7_put 50 = .ok (.iconst 0, 1) := by decide +kernel
theorem dX7_put_51 : decode cX7_put 51 = .ok (.istore 7, 2) := by decide +kernel
theorem dX7_put_53 : decode cX7_put 53 = .ok (.iload 4, 2) := by decide +kernel
theorem dX7_put_55 : decode cX7_put 55 = .ok (.ifCond .ne 20, 3) := by decide +kernel
theorem dX7_put_58 : decode cX7_put 58 = .ok (.iload 7, 2) := by decide +kernel
theorem dX7_put_60 : decode cX7_put 60 = .ok (.ifCond .ne 19, 3) := by decide +kernel
theorem dX7_put_63 : decode cX7_put 63 = .ok (.iload 6, 2) := by decide +kernel
theorem dX7_put_65 : decode cX7_put 65 = .ok (.bipush 33, 2) := by decide +kernel
theorem dX7_put_67 : decode cX7_put 67 = .ok (.bipush 126, 2) := by decide +kernel
theorem dX7_put_69 : decode cX7_put 69 = .ok (.invokestatic 39, 3) := by decide +kernel
theorem dX7_put_72 : decode cX7_put 72 = .ok (.ifCond .ne 7, 3) := by decide +kernel
theorem dX7_put_75 : decode cX7_put 75 = .ok (.iconst 1, 1) := by decide +kernel
theorem dX7_put_76 : decode cX7_put 76 = .ok (.goto 4, 3) := by decide +kernel
theorem dX7_put_79 : decode cX7_put 79 = .ok (.iconst 0, 1) := by decide +kernel
theorem dX7_put_80 : decode cX7_put 80 = .ok (.istore 4, 2) := by decide +kernel
theorem dX7_put_82 : decode cX7_put 82 = .ok (.iload_n 3, 1) := by decide +kernel
theorem dX7_put_83 : decode cX7_put 83 = .ok (.iload 7, 2) := by decide +kernel
theorem dX7_put_85 : decode cX7_put 85 = .ok (.ifCond .eq 7, 3) := by decide +kernel
theorem dX7_put_88 : decode cX7_put 88 = .ok (.iconst 0, 1) := by decide +kernel
theorem dX7_put_89 : decode cX7_put 89 = .ok (.goto 4, 3) := by decide +kernel
theorem dX7_put_92 : decode cX7_put 92 = .ok (.iconst 1, 1) := by decide +kernel
theorem dX7_put_93 : decode cX7_put 93 = .ok (.iadd, 1) := by decide +kernel
theorem dX7_put_94 : decode cX7_put 94 = .ok (.istore_n 3, 1) := by decide +kernel
theorem dX7_put_95 : decode cX7_put 95 = .ok (.iinc 5 1, 3) := by decide +kernel
theorem dX7_put_98 : decode cX7_put 98 = .ok (.goto (-90), 3) := by decide +kernel
theorem dX7_put_101 : decode cX7_put 101 = .ok (.iload 4, 2) := by decide +kernel
theorem dX7_put_103 : decode cX7_put 103 = .ok (.ifCond .eq 6, 3) := by decide +kernel
theorem dX7_put_106 : decode cX7_put 106 = .ok (.bipush (-2), 2) := by decide +kernel
theorem dX7_put_108 : decode cX7_put 108 = .ok (.ireturn, 1) := by decide +kernel
theorem dX7_put_109 : decode cX7_put 109 = .ok (.aload_n 0, 1) := by decide +kernel
theorem dX7_put_110 : decode cX7_put 110 = .ok (.getfield 119, 3) := by decide +kernel
theorem dX7_put_113 : decode cX7_put 113 = .ok (.iload_n 3, 1) := by decide +kernel
theorem dX7_put_114 : decode cX7_put 114 = .ok (.iadd, 1) := by decide +kernel
theorem dX7_put_115 : decode cX7_put 115 = .ok (.bipush 80, 2) := by decide +kernel
theorem dX7_put_117 : decode cX7_put 117 = .ok (.if_icmp .le 6, 3) := by decide +kernel
theorem dX7_put_120 : decode cX7_put 120 = .ok (.bipush (-4), 2) := by decide +kernel
theorem dX7_put_122 : decode cX7_put 122 = .ok (.ireturn, 1) := by decide +kernel
theorem dX7_put_123 : decode cX7_put 123 = .ok (.iconst 0, 1) := by decide +kernel
theorem dX7_put_124 : decode cX7_put 124 = .ok (.istore 5, 2) := by decide +kernel
theorem dX7_put_126 : decode cX7_put 126 = .ok (.iload 5, 2) := by decide +kernel
theorem dX7_put_128 : decode cX7_put 128 = .ok (.iload_n 3, 1) := by decide +kernel
theorem dX7_put_129 : decode cX7_put 129 = .ok (.if_icmp .ge 37, 3) := by decide +kernel
theorem dX7_put_132 : decode cX7_put 132 = .ok (.aload_n 0, 1) := by decide +kernel
theorem dX7_put_133 : decode cX7_put 133 = .ok (.getfield 26, 3) := by decide +kernel
theorem dX7_put_136 : decode cX7_put 136 = .ok (.aload_n 0, 1) := by decide +kernel
theorem dX7_put_137 : decode cX7_put 137 = .ok (.getfield 119, 3) := by decide +kernel
theorem dX7_put_140 : decode cX7_put 140 = .ok (.iload_n 3, 1) := by decide +kernel
theorem dX7_put_141 : decode cX7_put 141 = .ok (.iadd, 1) := by decide +kernel
theorem dX7_put_142 : decode cX7_put 142 = .ok (.iconst 1, 1) := by decide +kernel
theorem dX7_put_143 : decode cX7_put 143 = .ok (.isub, 1) := by decide +kernel
theorem dX7_put_144 : decode cX7_put 144 = .ok (.iload 5, 2) := by decide +kernel
theorem dX7_put_146 : decode cX7_put 146 = .ok (.isub, 1) := by decide +kernel
theorem dX7_put_147 : decode cX7_put 147 = .ok (.lload_n 1, 1) := by decide +kernel
theorem dX7_put_148 : decode cX7_put 148 = .ok (.bipush 8, 2) := by decide +kernel
theorem dX7_put_150 : decode cX7_put 150 = .ok (.iload 5, 2) := by decide +kernel
theorem dX7_put_152 : decode cX7_put 152 = .ok (.imul, 1) := by decide +kernel
theorem dX7_put_153 : decode cX7_put 153 = .ok (.lushr, 1) := by decide +kernel
theorem dX7_put_154 : decode cX7_put 154 = .ok (.ldc2_w 151, 3) := by decide +kernel
theorem dX7_put_157 : decode cX7_put 157 = .ok (.land, 1) := by decide +kernel
theorem dX7_put_158 : decode cX7_put 158 = .ok (.l2i, 1) := by decide +kernel
theorem dX7_put_159 : decode cX7_put 159 = .ok (.iastore, 1) := by decide +kernel
theorem dX7_put_160 : decode cX7_put 160 = .ok (.iinc 5 1, 3) := by decide +kernel
theorem dX7_put_163 : decode cX7_put 163 = .ok (.goto (-37), 3) := by decide +kernel
theorem dX7_put_166 : decode cX7_put 166 = .ok (.aload_n 0, 1) := by decide +kernel
theorem dX7_put_167 : decode cX7_put 167 = .ok (.dup, 1) := by decide +kernel
theorem dX7_put_168 : decode cX7_put 168 = .ok (.getfield 119, 3) := by decide +kernel
theorem dX7_put_171 : decode cX7_put 171 = .ok (.iload_n 3, 1) := by decide +kernel
theorem dX7_put_172 : decode cX7_put 172 = .ok (.iadd, 1) := by decide +kernel
theorem dX7_put_173 : decode cX7_put 173 = .ok (.putfield 119, 3) := by decide +kernel
theorem dX7_put_176 : decode cX7_put 176 = .ok (.aload_n 0, 1) := by decide +kernel
theorem dX7_put_177 : decode cX7_put 177 = .ok (.getfield 119, 3) := by decide +kernel
theorem dX7_put_180 : decode cX7_put 180 = .ok (.ireturn, 1) := by decide +kernel
theorem dX7_wipe_0 : decode cX7_wipe 0 = .ok (.aload_n 0, 1) := by decide +kernel
theorem dX7_wipe_1 : decode cX7_wipe 1 = .ok (.getfield 119, 3) := by decide +kernel
theorem dX7_wipe_4 : decode cX7_wipe 4 = .ok (.istore_n 1, 1) := by decide +kernel
theorem dX7_wipe_5 : decode cX7_wipe 5 = .ok (.aload_n 0, 1) := by decide +kernel
theorem dX7_wipe_6 : decode cX7_wipe 6 = .ok (.iconst 0, 1) := by decide +kernel
theorem dX7_wipe_7 : decode cX7_wipe 7 = .ok (.putfield 119, 3) := by decide +kernel
theorem dX7_wipe_10 : decode cX7_wipe 10 = .ok (.iload_n 1, 1) := by decide +kernel
theorem dX7_wipe_11 : decode cX7_wipe 11 = .ok (.ireturn, 1) := by decide +kernel
set_option maxRecDepth 20000 in
theorem ggX7_sign_X7_in : GoodIn wsX7_sign wsX7_in := goodIn_r _ [8] (by decide +kernel) (by decide +kernel)
set_option maxRecDepth 20000 in
theorem gX7_sign_X7_in : GoodIn wsX7_sign (va_wsS RX7 39 yX7_in wsX7_in) := goodIn_app (goodIn_of _ (by decide +kernel)) ggX7_sign_X7_in
theorem dX7_sign_0 : decode cX7_sign 0 = .ok (.aload_n 0, 1) := by decide +kernel
theorem dX7_sign_1 : decode cX7_sign 1 = .ok (.getfield 153, 3) := by decide +kernel
theorem dX7_sign_4 : decode cX7_sign 4 = .ok (.aload_n 0, 1) := by decide +kernel
theorem dX7_sign_5 : decode cX7_sign 5 = .ok (.getfield 119, 3) := by decide +kernel
theorem dX7_sign_8 : decode cX7_sign 8 = .ok (.if_icmp .ge 15, 3) := by decide +kernel
theorem dX7_sign_11 : decode cX7_sign 11 = .ok (.aload_n 0, 1) := by decide +kernel
theorem dX7_sign_12 : decode cX7_sign 12 = .ok (.getfield 26, 3) := by decide +kernel
theorem dX7_sign_15 : decode cX7_sign 15 = .ok (.aload_n 0, 1) := by decide +kernel
theorem dX7_sign_16 : decode cX7_sign 16 = .ok (.getfield 153, 3) := by decide +kernel
theorem dX7_sign_19 : decode cX7_sign 19 = .ok (.iaload, 1) := by decide +kernel
theorem dX7_sign_20 : decode cX7_sign 20 = .ok (.goto 4, 3) := by decide +kernel
theorem dX7_sign_23 : decode cX7_sign 23 = .ok (.iconst 0, 1) := by decide +kernel
theorem dX7_sign_24 : decode cX7_sign 24 = .ok (.istore_n 3, 1) := by decide +kernel
theorem dX7_sign_25 : decode cX7_sign 25 = .ok (.aload_n 0, 1) := by decide +kernel
theorem dX7_sign_26 : decode cX7_sign 26 = .ok (.aload_n 0, 1) := by decide +kernel
theorem dX7_sign_27 : decode cX7_sign 27 = .ok (.getfield 156, 3) := by decide +kernel
theorem dX7_sign_30 : decode cX7_sign 30 = .ok (.ifCond .ne 12, 3) := by decide +kernel
theorem dX7_sign_33 : decode cX7_sign 33 = .ok (.iload_n 3, 1) := by decide +kernel
theorem dX7_sign_34 : decode cX7_sign 34 = .ok (.iload_n 1, 1) := by decide +kernel
theorem dX7_sign_35 : decode cX7_sign 35 = .ok (.iload_n 2, 1) := by decide +kernel
theorem dX7_sign_36 : decode cX7_sign 36 = .ok (.invokestatic 39, 3) := by decide +kernel
theorem dX7_sign_39 : decode cX7_sign 39 = .ok (.ifCond .ne 7, 3) := by decide +kernel
theorem dX7_sign_42 : decode cX7_sign 42 = .ok (.iconst 1, 1) := by decide +kernel
theorem dX7_sign_43 : decode cX7_sign 43 = .ok (.goto 4, 3) := by decide +kernel
theorem dX7_sign_46 : decode cX7_sign 46 = .ok (.iconst 0, 1) := by decide +kernel
theorem dX7_sign_47 : decode cX7_sign 47 = .ok (.putfield 156, 3) := by decide +kernel
theorem dX7_sign_50 : decode cX7_sign 50 = .ok (.aload_n 0, 1) := by decide +kernel
theorem dX7_sign_51 : decode cX7_sign 51 = .ok (.dup, 1) := by decide +kernel
theorem dX7_sign_52 : decode cX7_sign 52 = .ok (.getfield 153, 3) := by decide +kernel
theorem dX7_sign_55 : decode cX7_sign 55 = .ok (.aload_n 0, 1) := by decide +kernel
theorem dX7_sign_56 : decode cX7_sign 56 = .ok (.getfield 156, 3) := by decide +kernel
theorem dX7_sign_59 : decode cX7_sign 59 = .ok (.ifCond .eq 7, 3) := by decide +kernel
theorem dX7_sign_62 : decode cX7_sign 62 = .ok (.iconst 0, 1) := by decide +kernel
theorem dX7_sign_63 : decode cX7_sign 63 = .ok (.goto 4, 3) := by decide +kernel
theorem dX7_sign_66 : decode cX7_sign 66 = .ok (.iconst 1, 1) := by decide +kernel
theorem dX7_sign_67 : decode cX7_sign 67 = .ok (.iadd, 1) := by decide +kernel
theorem dX7_sign_68 : decode cX7_sign 68 = .ok (.putfield 153, 3) := by decide +kernel
theorem dX7_sign_71 : decode cX7_sign 71 = .ok (.iload_n 3, 1) := by decide +kernel
theorem dX7_sign_72 : decode cX7_sign 72 = .ok (.ireturn, 1) := by decide +kernel
set_option maxRecDepth 20000 in
theorem ggX7_isNext_X7_in : GoodIn wsX7_isNext wsX7_in := goodIn_r _ [8] (by decide +kernel) (by decide +kernel)
set_option maxRecDepth 20000 in
theorem gX7_isNext_X7_in : GoodIn wsX7_isNext (va_wsS RX7 39 yX7_in wsX7_in) := goodIn_app (goodIn_of _ (by decide +kernel)) ggX7_isNext_X7_in
theorem dX7_isNext_0 : decode cX7_isNext 0 = .ok (.aload_n 0, 1) := by decide +kernel
theorem dX7_isNext_1 : decode cX7_isNext 1 = .ok (.getfield 156, 3) := by decide +kernel
theorem dX7_isNext_4 : decode cX7_isNext 4 = .ok (.ifCond .ne 35, 3) := by decide +kernel
theorem dX7_isNext_7 : decode cX7_isNext 7 = .ok (.aload_n 0, 1) := by decide +kernel
theorem dX7_isNext_8 : decode cX7_isNext 8 = .ok (.getfield 153, 3) := by decide +kernel
theorem dX7_isNext_11 : decode cX7_isNext 11 = .ok (.aload_n 0, 1) := by decide +kernel
theorem dX7_isNext_12 : decode cX7_isNext 12 = .ok (.getfield 119, 3) := by decide +kernel
theorem dX7_isNext_15 : decode cX7_isNext 15 = .ok (.if_icmp .ge 24, 3) := by decide +kernel
theorem dX7_isNext_18 : decode cX7_isNext 18 = .ok (.aload_n 0, 1) := by decide +kernel
theorem dX7_isNext_19 : decode cX7_isNext 19 = .ok (.getfield 26, 3) := by decide +kernel
theorem dX7_isNext_22 : decode cX7_isNext 22 = .ok (.aload_n 0, 1) := by decide +kernel
theorem dX7_isNext_23 : decode cX7_isNext 23 = .ok (.getfield 153, 3) := by decide +kernel
theorem dX7_isNext_26 : decode cX7_isNext 26 = .ok (.iaload, 1) := by decide +kernel
theorem dX7_isNext_27 : decode cX7_isNext 27 = .ok (.iload_n 1, 1) := by decide +kernel
theorem dX7_isNext_28 : decode cX7_isNext 28 = .ok (.iload_n 2, 1) := by decide +kernel
theorem dX7_isNext_29 : decode cX7_isNext 29 = .ok (.invokestatic 39, 3) := by decide +kernel
theorem dX7_isNext_32 : decode cX7_isNext 32 = .ok (.ifCond .eq 7, 3) := by decide +kernel
theorem dX7_isNext_35 : decode cX7_isNext 35 = .ok (.iconst 1, 1) := by decide +kernel
theorem dX7_isNext_36 : decode cX7_isNext 36 = .ok (.goto 4, 3) := by decide +kernel
theorem dX7_isNext_39 : decode cX7_isNext 39 = .ok (.iconst 0, 1) := by decide +kernel
theorem dX7_isNext_40 : decode cX7_isNext 40 = .ok (.ireturn, 1) := by decide +kernel
set_option maxRecDepth 20000 in
theorem ggX7_number_X7_sign : GoodIn wsX7_number wsX7_sign := goodIn_r _ [5, 6, 7, 8, 9, 10, 11, 4, 12, 17, 18, 19, 20, 21, 22, 23, 24, 25, 26, 27, 28, 29, 30, 31, 32] (by decide +kernel) (by decide +kernel)
set_option maxRecDepth 20000 in
theorem gX7_number_X7_sign : GoodIn wsX7_number (wsV RX7 160 RX7 yX7_sign wsX7_sign) := goodIn_app (goodIn_of _ (by decide +kernel)) ggX7_number_X7_sign
set_option maxRecDepth 20000 in
theorem ggX7_number_X7_isNext : GoodIn wsX7_number wsX7_isNext := goodIn_r _ [16, 9, 6, 7, 8, 10, 11, 4, 12, 17, 18, 19, 20, 21, 22, 23, 24, 25, 26, 27, 28, 29, 30, 31, 32] (by decide +kernel) (by decide +kernel)
set_option maxRecDepth 20000 in
theorem gX7_number_X7_isNext : GoodIn wsX7_number (wsV RX7 163 RX7 yX7_isNext wsX7_isNext) := goodIn_app (goodIn_of _ (by decide +kernel)) ggX7_number_X7_isNext
theorem dX7_number_0 : decode cX7_number 0 = .ok (.aload_n 0, 1) := by decide +kernel
theorem dX7_number_1 : decode cX7_number 1 = .ok (.bipush 48, 2) := by decide +kernel
theorem dX7_number_3 : decode cX7_number 3 = .ok (.bipush 57, 2) := by decide +kernel
theorem dX7_number_5 : decode cX7_number 5 = .ok (.invokevirtual 160, 3) := by decide +kernel
theorem dX7_number_8 : decode cX7_number 8 = .ok (.bipush 48, 2) := by decide +kernel
theorem dX7_number_10 : decode cX7_number 10 = .ok (.isub, 1) := by decide +kernel
theorem dX7_number_11 : decode cX7_number 11 = .ok (.istore_n 1, 1) := by decide +kernel
theorem dX7_number_12 : decode cX7_number 12 = .ok (.iload_n 1, 1) := by decide +kernel
theorem dX7_number_13 : decode cX7_number 13 = .ok (.ifCond .le 33, 3) := by decide +kernel
theorem dX7_number_16 : decode cX7_number 16 = .ok (.aload_n 0, 1) := by decide +kernel
theorem dX7_number_17 : decode cX7_number 17 = .ok (.bipush 48, 2) := by decide +kernel
theorem dX7_number_19 : decode cX7_number 19 = .ok (.bipush 57, 2) := by decide +kernel
theorem dX7_number_21 : decode cX7_number 21 = .ok (.invokevirtual 163, 3) := by decide +kernel
theorem dX7_number_24 : decode cX7_number 24 = .ok (.ifCond .eq 22, 3) := by decide +kernel
theorem dX7_number_27 : decode cX7_number 27 = .ok (.bipush 10, 2) := by decide +kernel
theorem dX7_number_29 : decode cX7_number 29 = .ok (.iload_n 1, 1) := by decide +kernel
end
section
theorem dX7_number_30 : decode cX7_number 30 = .ok (.imul, 1) := by decide +kernel
theorem dX7_number_31 : decode cX7_number 31 = .ok (.aload_n 0, 1) := by decide +kernel
theorem dX7_number_32 : decode cX7_number 32 = .ok (.bipush 48, 2) := by decide +kernel
theorem dX7_number_34 : decode cX7_number 34 = .ok (.bipush 57, 2) := by decide +kernel
theorem dX7_number_36 : decode cX7_number 36 = .ok (.invokevirtual 160, 3) := by decide +kernel
theorem dX7_number_39 : decode cX7_number 39 = .ok (.iadd, 1) := by decide +kernel
theorem dX7_number_40 : decode cX7_number 40 = .ok (.bipush 48, 2) := by decide +kernel
theorem dX7_number_42 : decode cX7_number 42 = .ok (.isub, 1) := by decide +kernel
theorem dX7_number_43 : decode cX7_number 43 = .ok (.goto 4, 3) := by decide +kernel
theorem dX7_number_46 : decode cX7_number 46 = .ok (.iload_n 1, 1) := by decide +kernel
theorem dX7_number_47 : decode cX7_number 47 = .ok (.ireturn, 1) := by decide +kernel
set_option maxRecDepth 20000 in
theorem ggX7_order_X7_sign : GoodIn wsX7_order wsX7_sign := goodIn_r _ [13, 1, 2, 3, 4, 14, 15, 12, 16, 25, 26, 27, 28, 29, 30, 31, 32, 33, 34, 35, 36, 37, 38, 39, 40] (by decide +kernel) (by decide +kernel)
set_option maxRecDepth 20000 in
theorem gX7_order_X7_sign : GoodIn wsX7_order (wsV RX7 160 RX7 yX7_sign wsX7_sign) := goodIn_app (goodIn_of _ (by decide +kernel)) ggX7_order_X7_sign
set_option maxRecDepth 20000 in
theorem ggX7_order_X7_number : GoodIn wsX7_order wsX7_number := goodIn_r _ [20, 9, 10, 11, 12, 13, 1, 2, 3, 4, 14, 15, 16, 21, 22, 23, 24, 25, 26, 27, 28, 29, 30, 31, 32, 33, 34, 35, 36, 37, 38, 39, 40] (by decide +kernel) (by decide +kernel)
set_option maxRecDepth 20000 in
theorem gX7_order_X7_number : GoodIn wsX7_order (wsV RX7 170 RX7 yX7_number wsX7_number) := goodIn_app (goodIn_of _ (by decide +kernel)) ggX7_order_X7_number
set_option maxRecDepth 20000 in
theorem ggX7_order_X7_isNext : GoodIn wsX7_order wsX7_isNext := goodIn_r _ [24, 4, 1, 2, 3, 14, 15, 12, 16, 25, 26, 27, 28, 29, 30, 31, 32, 33, 34, 35, 36, 37, 38, 39, 40] (by decide +kernel) (by decide +kernel)
set_option maxRecDepth 20000 in
theorem gX7_order_X7_isNext : GoodIn wsX7_order (wsV RX7 163 RX7 yX7_isNext wsX7_isNext) := goodIn_app (goodIn_of _ (by decide +kernel)) ggX7_order_X7_isNext
theorem dX7_order_0 : decode cX7_order 0 = .ok (.aload_n 0, 1) := by decide +kernel
theorem dX7_order_1 : decode cX7_order 1 = .ok (.getfield 153, 3) := by decide +kernel
theorem dX7_order_4 : decode cX7_order 4 = .ok (.aload_n 0, 1) := by decide +kernel
theorem dX7_order_5 : decode cX7_order 5 = .ok (.getfield 119, 3) := by decide +kernel
theorem dX7_order_8 : decode cX7_order 8 = .ok (.if_icmp .ge 15, 3) := by decide +kernel
theorem dX7_order_11 : decode cX7_order 11 = .ok (.aload_n 0, 1) := by decide +kernel
theorem dX7_order_12 : decode cX7_order 12 = .ok (.getfield 26, 3) := by decide +kernel
theorem dX7_order_15 : decode cX7_order 15 = .ok (.aload_n 0, 1) := by decide +kernel
theorem dX7_order_16 : decode cX7_order 16 = .ok (.getfield 153, 3) := by decide +kernel
theorem dX7_order_19 : decode cX7_order 19 = .ok (.iaload, 1) := by decide +kernel
theorem dX7_order_20 : decode cX7_order 20 = .ok (.goto 4, 3) := by decide +kernel
theorem dX7_order_23 : decode cX7_order 23 = .ok (.iconst 0, 1) := by decide +kernel
theorem dX7_order_24 : decode cX7_order 24 = .ok (.istore_n 1, 1) := by decide +kernel
theorem dX7_order_25 : decode cX7_order 25 = .ok (.iload_n 1, 1) := by decide +kernel
theorem dX7_order_26 : decode cX7_order 26 = .ok (.bipush 43, 2) := by decide +kernel
theorem dX7_order_28 : decode cX7_order 28 = .ok (.if_icmp .eq 15, 3) := by decide +kernel
theorem dX7_order_31 : decode cX7_order 31 = .ok (.iload_n 1, 1) := by decide +kernel
theorem dX7_order_32 : decode cX7_order 32 = .ok (.bipush 107, 2) := by decide +kernel
theorem dX7_order_34 : decode cX7_order 34 = .ok (.if_icmp .eq 9, 3) := by decide +kernel
theorem dX7_order_37 : decode cX7_order 37 = .ok (.iload_n 1, 1) := by decide +kernel
theorem dX7_order_38 : decode cX7_order 38 = .ok (.bipush 117, 2) := by decide +kernel
theorem dX7_order_40 : decode cX7_order 40 = .ok (.if_icmp .ne 7, 3) := by decide +kernel
theorem dX7_order_43 : decode cX7_order 43 = .ok (.iconst 1, 1) := by decide +kernel
theorem dX7_order_44 : decode cX7_order 44 = .ok (.goto 4, 3) := by decide +kernel
theorem dX7_order_47 : decode cX7_order 47 = .ok (.iconst 0, 1) := by decide +kernel
theorem dX7_order_48 : decode cX7_order 48 = .ok (.istore_n 2, 1) := by decide +kernel
theorem dX7_order_49 : decode cX7_order 49 = .ok (.aload_n 0, 1) := by decide +kernel
theorem dX7_order_50 : decode cX7_order 50 = .ok (.aload_n 0, 1) := by decide +kernel
theorem dX7_order_51 : decode cX7_order 51 = .ok (.getfield 156, 3) := by decide +kernel
theorem dX7_order_54 : decode cX7_order 54 = .ok (.ifCond .ne 19, 3) := by decide +kernel
theorem dX7_order_57 : decode cX7_order 57 = .ok (.iload_n 2, 1) := by decide +kernel
theorem dX7_order_58 : decode cX7_order 58 = .ok (.ifCond .ne 19, 3) := by decide +kernel
theorem dX7_order_61 : decode cX7_order 61 = .ok (.iload_n 1, 1) := by decide +kernel
theorem dX7_order_62 : decode cX7_order 62 = .ok (.bipush 116, 2) := by decide +kernel
theorem dX7_order_64 : decode cX7_order 64 = .ok (.if_icmp .eq 13, 3) := by decide +kernel
theorem dX7_order_67 : decode cX7_order 67 = .ok (.iload_n 1, 1) := by decide +kernel
theorem dX7_order_68 : decode cX7_order 68 = .ok (.bipush 98, 2) := by decide +kernel
theorem dX7_order_70 : decode cX7_order 70 = .ok (.if_icmp .eq 7, 3) := by decide +kernel
theorem dX7_order_73 : decode cX7_order 73 = .ok (.iconst 1, 1) := by decide +kernel
theorem dX7_order_74 : decode cX7_order 74 = .ok (.goto 4, 3) := by decide +kernel
theorem dX7_order_77 : decode cX7_order 77 = .ok (.iconst 0, 1) := by decide +kernel
theorem dX7_order_78 : decode cX7_order 78 = .ok (.putfield 156, 3) := by decide +kernel
theorem dX7_order_81 : decode cX7_order 81 = .ok (.aload_n 0, 1) := by decide +kernel
theorem dX7_order_82 : decode cX7_order 82 = .ok (.dup, 1) := by decide +kernel
theorem dX7_order_83 : decode cX7_order 83 = .ok (.getfield 153, 3) := by decide +kernel
theorem dX7_order_86 : decode cX7_order 86 = .ok (.aload_n 0, 1) := by decide +kernel
theorem dX7_order_87 : decode cX7_order 87 = .ok (.getfield 156, 3) := by decide +kernel
theorem dX7_order_90 : decode cX7_order 90 = .ok (.ifCond .eq 7, 3) := by decide +kernel
theorem dX7_order_93 : decode cX7_order 93 = .ok (.iconst 0, 1) := by decide +kernel
theorem dX7_order_94 : decode cX7_order 94 = .ok (.goto 4, 3) := by decide +kernel
theorem dX7_order_97 : decode cX7_order 97 = .ok (.iconst 1, 1) := by decide +kernel
theorem dX7_order_98 : decode cX7_order 98 = .ok (.iadd, 1) := by decide +kernel
theorem dX7_order_99 : decode cX7_order 99 = .ok (.putfield 153, 3) := by decide +kernel
theorem dX7_order_102 : decode cX7_order 102 = .ok (.aload_n 0, 1) := by decide +kernel
theorem dX7_order_103 : decode cX7_order 103 = .ok (.iload_n 1, 1) := by decide +kernel
theorem dX7_order_104 : decode cX7_order 104 = .ok (.putfield 167, 3) := by decide +kernel
theorem dX7_order_107 : decode cX7_order 107 = .ok (.aload_n 0, 1) := by decide +kernel
theorem dX7_order_108 : decode cX7_order 108 = .ok (.iload_n 2, 1) := by decide +kernel
theorem dX7_order_109 : decode cX7_order 109 = .ok (.ifCond .eq 17, 3) := by decide +kernel
theorem dX7_order_112 : decode cX7_order 112 = .ok (.aload_n 0, 1) := by decide +kernel
theorem dX7_order_113 : decode cX7_order 113 = .ok (.bipush 48, 2) := by decide +kernel
theorem dX7_order_115 : decode cX7_order 115 = .ok (.bipush 53, 2) := by decide +kernel
theorem dX7_order_117 : decode cX7_order 117 = .ok (.invokevirtual 160, 3) := by decide +kernel
theorem dX7_order_120 : decode cX7_order 120 = .ok (.bipush 48, 2) := by decide +kernel
theorem dX7_order_122 : decode cX7_order 122 = .ok (.isub, 1) := by decide +kernel
theorem dX7_order_123 : decode cX7_order 123 = .ok (.goto 7, 3) := by decide +kernel
theorem dX7_order_126 : decode cX7_order 126 = .ok (.aload_n 0, 1) := by decide +kernel
theorem dX7_order_127 : decode cX7_order 127 = .ok (.invokevirtual 170, 3) := by decide +kernel
theorem dX7_order_130 : decode cX7_order 130 = .ok (.putfield 173, 3) := by decide +kernel
theorem dX7_order_133 : decode cX7_order 133 = .ok (.iload_n 1, 1) := by decide +kernel
theorem dX7_order_134 : decode cX7_order 134 = .ok (.bipush 43, 2) := by decide +kernel
theorem dX7_order_136 : decode cX7_order 136 = .ok (.if_icmp .ne 14, 3) := by decide +kernel
theorem dX7_order_139 : decode cX7_order 139 = .ok (.aload_n 0, 1) := by decide +kernel
theorem dX7_order_140 : decode cX7_order 140 = .ok (.bipush 58, 2) := by decide +kernel
theorem dX7_order_142 : decode cX7_order 142 = .ok (.bipush 58, 2) := by decide +kernel
theorem dX7_order_144 : decode cX7_order 144 = .ok (.invokevirtual 160, 3) := by decide +kernel
theorem dX7_order_147 : decode cX7_order 147 = .ok (.goto 4, 3) := by decide +kernel
theorem dX7_order_150 : decode cX7_order 150 = .ok (.iconst 0, 1) := by decide +kernel
theorem dX7_order_151 : decode cX7_order 151 = .ok (.istore_n 3, 1) := by decide +kernel
theorem dX7_order_152 : decode cX7_order 152 = .ok (.aload_n 0, 1) := by decide +kernel
theorem dX7_order_153 : decode cX7_order 153 = .ok (.iload_n 1, 1) := by decide +kernel
theorem dX7_order_154 : decode cX7_order 154 = .ok (.bipush 43, 2) := by decide +kernel
theorem dX7_order_156 : decode cX7_order 156 = .ok (.if_icmp .eq 9, 3) := by decide +kernel
theorem dX7_order_159 : decode cX7_order 159 = .ok (.iload_n 1, 1) := by decide +kernel
theorem dX7_order_160 : decode cX7_order 160 = .ok (.bipush 117, 2) := by decide +kernel
theorem dX7_order_162 : decode cX7_order 162 = .ok (.if_icmp .ne 10, 3) := by decide +kernel
theorem dX7_order_165 : decode cX7_order 165 = .ok (.aload_n 0, 1) := by decide +kernel
theorem dX7_order_166 : decode cX7_order 166 = .ok (.invokevirtual 170, 3) := by decide +kernel
theorem dX7_order_169 : decode cX7_order 169 = .ok (.goto 4, 3) := by decide +kernel
theorem dX7_order_172 : decode cX7_order 172 = .ok (.iconst 0, 1) := by decide +kernel
theorem dX7_order_173 : decode cX7_order 173 = .ok (.putfield 176, 3) := by decide +kernel
theorem dX7_order_176 : decode cX7_order 176 = .ok (.aload_n 0, 1) := by decide +kernel
theorem dX7_order_177 : decode cX7_order 177 = .ok (.bipush (-6), 2) := by decide +kernel
theorem dX7_order_179 : decode cX7_order 179 = .ok (.putfield 179, 3) := by decide +kernel
theorem dX7_order_182 : decode cX7_order 182 = .ok (.iload_n 1, 1) := by decide +kernel
theorem dX7_order_183 : decode cX7_order 183 = .ok (.bipush 43, 2) := by decide +kernel
theorem dX7_order_185 : decode cX7_order 185 = .ok (.if_icmp .ne 34, 3) := by decide +kernel
theorem dX7_order_188 : decode cX7_order 188 = .ok (.aload_n 0, 1) := by decide +kernel
theorem dX7_order_189 : decode cX7_order 189 = .ok (.bipush 94, 2) := by decide +kernel
theorem dX7_order_191 : decode cX7_order 191 = .ok (.bipush 94, 2) := by decide +kernel
theorem dX7_order_193 : decode cX7_order 193 = .ok (.invokevirtual 163, 3) := by decide +kernel
theorem dX7_order_196 : decode cX7_order 196 = .ok (.ifCond .eq 23, 3) := by decide +kernel
theorem dX7_order_199 : decode cX7_order 199 = .ok (.aload_n 0, 1) := by decide +kernel
theorem dX7_order_200 : decode cX7_order 200 = .ok (.bipush 94, 2) := by decide +kernel
theorem dX7_order_202 : decode cX7_order 202 = .ok (.bipush 94, 2) := by decide +kernel
theorem dX7_order_204 : decode cX7_order 204 = .ok (.invokevirtual 160, 3) := by decide +kernel
theorem dX7_order_207 : decode cX7_order 207 = .ok (.istore_n 3, 1) := by decide +kernel
theorem dX7_order_208 : decode cX7_order 208 = .ok (.aload_n 0, 1) := by decide +kernel
theorem dX7_order_209 : decode cX7_order 209 = .ok (.aload_n 0, 1) := by decide +kernel
theorem dX7_order_210 : decode cX7_order 210 = .ok (.invokevirtual 170, 3) := by decide +kernel
theorem dX7_order_213 : decode cX7_order 213 = .ok (.putfield 179, 3) := by decide +kernel
theorem dX7_order_216 : decode cX7_order 216 = .ok (.goto 26, 3) := by decide +kernel
theorem dX7_order_219 : decode cX7_order 219 = .ok (.iload_n 1, 1) := by decide +kernel
theorem dX7_order_220 : decode cX7_order 220 = .ok (.bipush 117, 2) := by decide +kernel
theorem dX7_order_222 : decode cX7_order 222 = .ok (.if_icmp .ne 20, 3) := by decide +kernel
theorem dX7_order_225 : decode cX7_order 225 = .ok (.aload_n 0, 1) := by decide +kernel
theorem dX7_order_226 : decode cX7_order 226 = .ok (.bipush 45, 2) := by decide +kernel
theorem dX7_order_228 : decode cX7_order 228 = .ok (.bipush 45, 2) := by decide +kernel
theorem dX7_order_230 : decode cX7_order 230 = .ok (.invokevirtual 160, 3) := by decide +kernel
theorem dX7_order_233 : decode cX7_order 233 = .ok (.istore_n 3, 1) := by decide +kernel
theorem dX7_order_234 : decode cX7_order 234 = .ok (.aload_n 0, 1) := by decide +kernel
theorem dX7_order_235 : decode cX7_order 235 = .ok (.aload_n 0, 1) := by decide +kernel
theorem dX7_order_236 : decode cX7_order 236 = .ok (.invokevirtual 170, 3) := by decide +kernel
theorem dX7_order_239 : decode cX7_order 239 = .ok (.putfield 179, 3) := by decide +kernel
theorem dX7_order_242 : decode cX7_order 242 = .ok (.return_, 1) := by decide +kernel
set_option maxRecDepth 20000 in
theorem ggX7_does_X7_writeFault : GoodIn wsX7_does wsX7_writeFault := goodIn_r _ [9, 10, 11, 12, 8, 13, 14, 15, 16, 17, 18, 19, 20, 21, 22, 23, 24, 25, 26, 27, 75, 76, 77, 78, 79, 80, 81, 82, 83, 84, 85, 86, 87, 88, 89, 90] (by decide +kernel) (by decide +kernel)
set_option maxRecDepth 20000 in
theorem gX7_does_X7_writeFault : GoodIn wsX7_does (wsV RX7 73 RX7 yX7_writeFault wsX7_writeFault) := goodIn_app (goodIn_of _ (by decide +kernel)) ggX7_does_X7_writeFault
set_option maxRecDepth 20000 in
theorem ggX7_does_X7_passFault : GoodIn wsX7_does wsX7_passFault := goodIn_r _ [31, 10, 14, 15, 8, 16, 75, 76, 77, 78, 79, 80, 81, 82, 83, 84, 85, 86, 87, 88, 89, 90] (by decide +kernel) (by decide +kernel)
set_option maxRecDepth 20000 in
theorem gX7_does_X7_passFault : GoodIn wsX7_does (wsV RX7 95 RX7 yX7_passFault wsX7_passFault) := goodIn_app (goodIn_of _ (by decide +kernel)) ggX7_does_X7_passFault
set_option maxRecDepth 20000 in
theorem ggX7_does_X7_burnFault : GoodIn wsX7_does wsX7_burnFault := goodIn_r _ [35, 10, 17, 18, 19, 8, 20, 14, 15, 16, 25, 26, 27, 36, 37, 38, 75, 76, 77, 78, 79, 80, 81, 82, 83, 84, 85, 86, 87, 88, 89, 90] (by decide +kernel) (by decide +kernel)
set_option maxRecDepth 20000 in
theorem gX7_does_X7_burnFault : GoodIn wsX7_does (wsV RX7 89 RX7 yX7_burnFault wsX7_burnFault) := goodIn_app (goodIn_of _ (by decide +kernel)) ggX7_does_X7_burnFault
set_option maxRecDepth 20000 in
theorem ggX7_does_X7_hoursFault : GoodIn wsX7_does wsX7_hoursFault := goodIn_r _ [42, 11, 12, 8, 13, 14, 15, 16] (by decide +kernel) (by decide +kernel)
set_option maxRecDepth 20000 in
theorem gX7_does_X7_hoursFault : GoodIn wsX7_does (wsV RX7 83 RX7 yX7_hoursFault wsX7_hoursFault) := goodIn_app (goodIn_of _ (by decide +kernel)) ggX7_does_X7_hoursFault
set_option maxRecDepth 20000 in
theorem ggX7_does_X7_writes : GoodIn wsX7_does wsX7_writes := goodIn_r _ [46, 10, 25, 26, 8, 27, 75, 76, 77, 78, 79, 80, 81, 82, 83, 84, 85, 86, 87, 88, 89, 90] (by decide +kernel) (by decide +kernel)
set_option maxRecDepth 20000 in
theorem gX7_does_X7_writes : GoodIn wsX7_does (wsV RX7 77 RX7 yX7_writes wsX7_writes) := goodIn_app (goodIn_of _ (by decide +kernel)) ggX7_does_X7_writes
set_option maxRecDepth 20000 in
theorem ggX7_does_X7_passes : GoodIn wsX7_does wsX7_passes := goodIn_r _ [50, 21, 22, 23, 8, 24, 10, 25, 26, 27, 51, 52, 53, 54, 36, 37, 38, 55, 56, 57, 58, 59, 60, 61, 62, 75, 76, 77, 78, 79, 80, 81, 82, 83, 84, 85, 86, 87, 88, 89, 90] (by decide +kernel) (by decide +kernel)
set_option maxRecDepth 20000 in
theorem gX7_does_X7_passes : GoodIn wsX7_does (wsV RX7 98 RX7 yX7_passes wsX7_passes) := goodIn_app (goodIn_of _ (by decide +kernel)) ggX7_does_X7_passes
set_option maxRecDepth 20000 in
theorem ggX7_does_X7_burns : GoodIn wsX7_does wsX7_burns := goodIn_r _ [66, 10, 25, 26, 8, 27, 59, 60, 61, 62, 75, 76, 77, 78, 79, 80, 81, 82, 83, 84, 85, 86, 87, 88, 89, 90] (by decide +kernel) (by decide +kernel)
set_option maxRecDepth 20000 in
theorem gX7_does_X7_burns : GoodIn wsX7_does (wsV RX7 92 RX7 yX7_burns wsX7_burns) := goodIn_app (goodIn_of _ (by decide +kernel)) ggX7_does_X7_burns
set_option maxRecDepth 20000 in
theorem ggX7_does_X7_putsHours : GoodIn wsX7_does wsX7_putsHours := goodIn_r _ [70, 10, 36, 37, 8, 38, 75, 76, 77, 78, 79, 80, 81, 82, 83, 84, 85, 86, 87, 88, 89, 90] (by decide +kernel) (by decide +kernel)
set_option maxRecDepth 20000 in
theorem gX7_does_X7_putsHours : GoodIn wsX7_does (wsV RX7 86 RX7 yX7_putsHours wsX7_putsHours) := goodIn_app (goodIn_of _ (by decide +kernel)) ggX7_does_X7_putsHours
set_option maxRecDepth 20000 in
theorem ggX7_does_X7_turns : GoodIn wsX7_does wsX7_turns := goodIn_r _ [74, 10, 36, 37, 8, 38, 75, 76, 77, 78, 79, 80, 81, 82, 83, 84, 85, 86, 87, 88, 89, 90] (by decide +kernel) (by decide +kernel)
set_option maxRecDepth 20000 in
theorem gX7_does_X7_turns : GoodIn wsX7_does (wsV RX7 80 RX7 yX7_turns wsX7_turns) := goodIn_app (goodIn_of _ (by decide +kernel)) ggX7_does_X7_turns
theorem dX7_does_0 : decode cX7_does 0 = .ok (.aload_n 0, 1) := by decide +kernel
theorem dX7_does_1 : decode cX7_does 1 = .ok (.getfield 167, 3) := by decide +kernel
theorem dX7_does_4 : decode cX7_does 4 = .ok (.istore_n 1, 1) := by decide +kernel
theorem dX7_does_5 : decode cX7_does 5 = .ok (.iload_n 1, 1) := by decide +kernel
theorem dX7_does_6 : decode cX7_does 6 = .ok (.bipush 43, 2) := by decide +kernel
theorem dX7_does_8 : decode cX7_does 8 = .ok (.if_icmp .ne 22, 3) := by decide +kernel
theorem dX7_does_11 : decode cX7_does 11 = .ok (.aload_n 0, 1) := by decide +kernel
theorem dX7_does_12 : decode cX7_does 12 = .ok (.aload_n 0, 1) := by decide +kernel
theorem dX7_does_13 : decode cX7_does 13 = .ok (.getfield 173, 3) := by decide +kernel
theorem dX7_does_16 : decode cX7_does 16 = .ok (.aload_n 0, 1) := by decide +kernel
theorem dX7_does_17 : decode cX7_does 17 = .ok (.getfield 176, 3) := by decide +kernel
theorem dX7_does_20 : decode cX7_does 20 = .ok (.aload_n 0, 1) := by decide +kernel
theorem dX7_does_21 : decode cX7_does 21 = .ok (.getfield 179, 3) := by decide +kernel
theorem dX7_does_24 : decode cX7_does 24 = .ok (.invokevirtual 73, 3) := by decide +kernel
theorem dX7_does_27 : decode cX7_does 27 = .ok (.goto 63, 3) := by decide +kernel
theorem dX7_does_30 : decode cX7_does 30 = .ok (.iload_n 1, 1) := by decide +kernel
theorem dX7_does_31 : decode cX7_does 31 = .ok (.bipush 116, 2) := by decide +kernel
theorem dX7_does_33 : decode cX7_does 33 = .ok (.if_icmp .ne 14, 3) := by decide +kernel
theorem dX7_does_36 : decode cX7_does 36 = .ok (.aload_n 0, 1) := by decide +kernel
theorem dX7_does_37 : decode cX7_does 37 = .ok (.aload_n 0, 1) := by decide +kernel
theorem dX7_does_38 : decode cX7_does 38 = .ok (.getfield 173, 3) := by decide +kernel
theorem dX7_does_41 : decode cX7_does 41 = .ok (.invokevirtual 95, 3) := by decide +kernel
theorem dX7_does_44 : decode cX7_does 44 = .ok (.goto 46, 3) := by decide +kernel
theorem dX7_does_47 : decode cX7_does 47 = .ok (.iload_n 1, 1) := by decide +kernel
theorem dX7_does_48 : decode cX7_does 48 = .ok (.bipush 98, 2) := by decide +kernel
theorem dX7_does_50 : decode cX7_does 50 = .ok (.if_icmp .ne 14, 3) := by decide +kernel
theorem dX7_does_53 : decode cX7_does 53 = .ok (.aload_n 0, 1) := by decide +kernel
theorem dX7_does_54 : decode cX7_does 54 = .ok (.aload_n 0, 1) := by decide +kernel
theorem dX7_does_55 : decode cX7_does 55 = .ok (.getfield 173, 3) := by decide +kernel
theorem dX7_does_58 : decode cX7_does 58 = .ok (.invokevirtual 89, 3) := by decide +kernel
theorem dX7_does_61 : decode cX7_does 61 = .ok (.goto 29, 3) := by decide +kernel
theorem dX7_does_64 : decode cX7_does 64 = .ok (.iload_n 1, 1) := by decide +kernel
theorem dX7_does_65 : decode cX7_does 65 = .ok (.bipush 117, 2) := by decide +kernel
theorem dX7_does_67 : decode cX7_does 67 = .ok (.if_icmp .ne 22, 3) := by decide +kernel
theorem dX7_does_70 : decode cX7_does 70 = .ok (.aload_n 0, 1) := by decide +kernel
theorem dX7_does_71 : decode cX7_does 71 = .ok (.aload_n 0, 1) := by decide +kernel
theorem dX7_does_72 : decode cX7_does 72 = .ok (.getfield 173, 3) := by decide +kernel
theorem dX7_does_75 : decode cX7_does 75 = .ok (.aload_n 0, 1) := by decide +kernel
theorem dX7_does_76 : decode cX7_does 76 = .ok (.getfield 176, 3) := by decide +kernel
theorem dX7_does_79 : decode cX7_does 79 = .ok (.aload_n 0, 1) := by decide +kernel
theorem dX7_does_80 : decode cX7_does 80 = .ok (.getfield 179, 3) := by decide +kernel
theorem dX7_does_83 : decode cX7_does 83 = .ok (.invokevirtual 83, 3) := by decide +kernel
theorem dX7_does_86 : decode cX7_does 86 = .ok (.goto 4, 3) := by decide +kernel
theorem dX7_does_89 : decode cX7_does 89 = .ok (.iconst 0, 1) := by decide +kernel
theorem dX7_does_90 : decode cX7_does 90 = .ok (.istore_n 2, 1) := by decide +kernel
theorem dX7_does_91 : decode cX7_does 91 = .ok (.iload_n 2, 1) := by decide +kernel
theorem dX7_does_92 : decode cX7_does 92 = .ok (.ifCond .ne 96, 3) := by decide +kernel
theorem dX7_does_95 : decode cX7_does 95 = .ok (.iload_n 1, 1) := by decide +kernel
theorem dX7_does_96 : decode cX7_does 96 = .ok (.bipush 43, 2) := by decide +kernel
theorem dX7_does_98 : decode cX7_does 98 = .ok (.if_icmp .ne 22, 3) := by decide +kernel
theorem dX7_does_101 : decode cX7_does 101 = .ok (.aload_n 0, 1) := by decide +kernel
theorem dX7_does_102 : decode cX7_does 102 = .ok (.aload_n 0, 1) := by decide +kernel
theorem dX7_does_103 : decode cX7_does 103 = .ok (.getfield 173, 3) := by decide +kernel
theorem dX7_does_106 : decode cX7_does 106 = .ok (.aload_n 0, 1) := by decide +kernel
theorem dX7_does_107 : decode cX7_does 107 = .ok (.getfield 176, 3) := by decide +kernel
theorem dX7_does_110 : decode cX7_does 110 = .ok (.aload_n 0, 1) := by decide +kernel
theorem dX7_does_111 : decode cX7_does 111 = .ok (.getfield 179, 3) := by decide +kernel
theorem dX7_does_114 : decode cX7_does 114 = .ok (.invokevirtual 77, 3) := by decide +kernel
theorem dX7_does_117 : decode cX7_does 117 = .ok (.goto 70, 3) := by decide +kernel
theorem dX7_does_120 : decode cX7_does 120 = .ok (.iload_n 1, 1) := by decide +kernel
theorem dX7_does_121 : decode cX7_does 121 = .ok (.bipush 116, 2) := by decide +kernel
theorem dX7_does_123 : decode cX7_does 123 = .ok (.if_icmp .ne 14, 3) := by decide +kernel
theorem dX7_does_126 : decode cX7_does 126 = .ok (.aload_n 0, 1) := by decide +kernel
theorem dX7_does_127 : decode cX7_does 127 = .ok (.aload_n 0, 1) := by decide +kernel
theorem dX7_does_128 : decode cX7_does 128 = .ok (.getfield 173, 3) := by decide +kernel
theorem dX7_does_131 : decode cX7_does 131 = .ok (.invokevirtual 98, 3) := by decide +kernel
theorem dX7_does_134 : decode cX7_does 134 = .ok (.goto 53, 3) := by decide +kernel
theorem dX7_does_137 : decode cX7_does 137 = .ok (.iload_n 1, 1) := by decide +kernel
theorem dX7_does_138 : decode cX7_does 138 = .ok (.bipush 98, 2) := by decide +kernel
theorem dX7_does_140 : decode cX7_does 140 = .ok (.if_icmp .ne 14, 3) := by decide +kernel
theorem dX7_does_143 : decode cX7_does 143 = .ok (.aload_n 0, 1) := by decide +kernel
theorem dX7_does_144 : decode cX7_does 144 = .ok (.aload_n 0, 1) := by decide +kernel
theorem dX7_does_145 : decode cX7_does 145 = .ok (.getfield 173, 3) := by decide +kernel
theorem dX7_does_148 : decode cX7_does 148 = .ok (.invokevirtual 92, 3) := by decide +kernel
theorem dX7_does_151 : decode cX7_does 151 = .ok (.goto 36, 3) := by decide +kernel
theorem dX7_does_154 : decode cX7_does 154 = .ok (.iload_n 1, 1) := by decide +kernel
theorem dX7_does_155 : decode cX7_does 155 = .ok (.bipush 117, 2) := by decide +kernel
theorem dX7_does_157 : decode cX7_does 157 = .ok (.if_icmp .ne 22, 3) := by decide +kernel
theorem dX7_does_160 : decode cX7_does 160 = .ok (.aload_n 0, 1) := by decide +kernel
theorem dX7_does_161 : decode cX7_does 161 = .ok (.aload_n 0, 1) := by decide +kernel
theorem dX7_does_162 : decode cX7_does 162 = .ok (.getfield 173, 3) := by decide +kernel
theorem dX7_does_165 : decode cX7_does 165 = .ok (.aload_n 0, 1) := by decide +kernel
theorem dX7_does_166 : decode cX7_does 166 = .ok (.getfield 176, 3) := by decide +kernel
theorem dX7_does_169 : decode cX7_does 169 = .ok (.aload_n 0, 1) := by decide +kernel
theorem dX7_does_170 : decode cX7_does 170 = .ok (.getfield 179, 3) := by decide +kernel
theorem dX7_does_173 : decode cX7_does 173 = .ok (.invokevirtual 86, 3) := by decide +kernel
theorem dX7_does_176 : decode cX7_does 176 = .ok (.goto 11, 3) := by decide +kernel
theorem dX7_does_179 : decode cX7_does 179 = .ok (.aload_n 0, 1) := by decide +kernel
theorem dX7_does_180 : decode cX7_does 180 = .ok (.aload_n 0, 1) := by decide +kernel
theorem dX7_does_181 : decode cX7_does 181 = .ok (.getfield 173, 3) := by decide +kernel
theorem dX7_does_184 : decode cX7_does 184 = .ok (.invokevirtual 80, 3) := by decide +kernel
theorem dX7_does_187 : decode cX7_does 187 = .ok (.istore_n 3, 1) := by decide +kernel
theorem dX7_does_188 : decode cX7_does 188 = .ok (.iload_n 2, 1) := by decide +kernel
theorem dX7_does_189 : decode cX7_does 189 = .ok (.ifCond .ne 7, 3) := by decide +kernel
theorem dX7_does_192 : decode cX7_does 192 = .ok (.iconst 1, 1) := by decide +kernel
theorem dX7_does_193 : decode cX7_does 193 = .ok (.goto 4, 3) := by decide +kernel
theorem dX7_does_196 : decode cX7_does 196 = .ok (.iconst 0, 1) := by decide +kernel
theorem dX7_does_197 : decode cX7_does 197 = .ok (.ireturn, 1) := by decide +kernel
set_option maxRecDepth 20000 in
theorem ggX7_go_X7_order : GoodIn wsX7_go wsX7_order := goodIn_r _ [8, 1, 3, 9, 2, 10, 11, 12, 13, 14, 15, 16, 7, 17, 18, 19, 20, 21, 22, 23, 24, 25, 26, 27, 28, 99, 100, 101, 102, 103, 104, 105, 106, 107, 108, 109, 110, 111, 112, 113, 114] (by decide +kernel) (by decide +kernel)
set_option maxRecDepth 20000 in
theorem gX7_go_X7_order : GoodIn wsX7_go (wsV RX7 182 RX7 yX7_order wsX7_order) := goodIn_app (goodIn_of _ (by decide +kernel)) ggX7_go_X7_order
set_option maxRecDepth 20000 in
theorem ggX7_go_X7_does : GoodIn wsX7_go wsX7_does := goodIn_r _ [32, 10, 11, 12, 13, 33, 34, 35, 7, 36, 37, 38, 39, 40, 18, 19, 20, 41, 42, 43, 44, 45, 46, 47, 48, 49, 50, 51, 52, 53, 54, 55, 56, 57, 58, 59, 60, 61, 62, 63, 64, 65, 66, 67, 68, 69, 70, 71, 72, 73, 74, 75, 76, 77, 78, 79, 80, 81, 82, 83, 84, 85, 86, 87, 88, 89, 90, 91, 92, 93, 94, 95, 96, 97, 98, 99, 100, 101, 102, 103, 104, 105, 106, 107, 108, 109, 110, 111, 112, 113, 114] (by decide +kernel) (by decide +kernel)
set_option maxRecDepth 20000 in
theorem gX7_go_X7_does : GoodIn wsX7_go (wsV RX7 185 RX7 yX7_does wsX7_does) := goodIn_app (goodIn_of _ (by decide +kernel)) ggX7_go_X7_does
set_option maxRecDepth 20000 in
theorem ggX7_go_X7_sign : GoodIn wsX7_go wsX7_sign := goodIn_r _ [17, 1, 3, 9, 2, 18, 19, 7, 20, 99, 100, 101, 102, 103, 104, 105, 106, 107, 108, 109, 110, 111, 112, 113, 114] (by decide +kernel) (by decide +kernel)
set_option maxRecDepth 20000 in
theorem gX7_go_X7_sign : GoodIn wsX7_go (wsV RX7 160 RX7 yX7_sign wsX7_sign) := goodIn_app (goodIn_of _ (by decide +kernel)) ggX7_go_X7_sign
theorem dX7_go_0 : decode cX7_go 0 = .ok (.aload_n 0, 1) := by decide +kernel
theorem dX7_go_1 : decode cX7_go 1 = .ok (.iconst 0, 1) := by decide +kernel
theorem dX7_go_2 : decode cX7_go 2 = .ok (.putfield 153, 3) := by decide +kernel
theorem dX7_go_5 : decode cX7_go 5 = .ok (.aload_n 0, 1) := by decide +kernel
theorem dX7_go_6 : decode cX7_go 6 = .ok (.iconst 0, 1) := by decide +kernel
theorem dX7_go_7 : decode cX7_go 7 = .ok (.putfield 156, 3) := by decide +kernel
theorem dX7_go_10 : decode cX7_go 10 = .ok (.iconst 0, 1) := by decide +kernel
theorem dX7_go_11 : decode cX7_go 11 = .ok (.istore_n 2, 1) := by decide +kernel
theorem dX7_go_12 : decode cX7_go 12 = .ok (.iconst 1, 1) := by decide +kernel
theorem dX7_go_13 : decode cX7_go 13 = .ok (.istore_n 3, 1) := by decide +kernel
theorem dX7_go_14 : decode cX7_go 14 = .ok (.iload_n 3, 1) := by decide +kernel
theorem dX7_go_15 : decode cX7_go 15 = .ok (.ifCond .eq 101, 3) := by decide +kernel
theorem dX7_go_18 : decode cX7_go 18 = .ok (.aload_n 0, 1) := by decide +kernel
theorem dX7_go_19 : decode cX7_go 19 = .ok (.invokevirtual 182, 3) := by decide +kernel
theorem dX7_go_22 : decode cX7_go 22 = .ok (.iload_n 1, 1) := by decide +kernel
theorem dX7_go_23 : decode cX7_go 23 = .ok (.ifCond .eq 14, 3) := by decide +kernel
theorem dX7_go_26 : decode cX7_go 26 = .ok (.aload_n 0, 1) := by decide +kernel
theorem dX7_go_27 : decode cX7_go 27 = .ok (.invokevirtual 185, 3) := by decide +kernel
theorem dX7_go_30 : decode cX7_go 30 = .ok (.ifCond .eq 7, 3) := by decide +kernel
theorem dX7_go_33 : decode cX7_go 33 = .ok (.iconst 1, 1) := by decide +kernel
theorem dX7_go_34 : decode cX7_go 34 = .ok (.goto 4, 3) := by decide +kernel
theorem dX7_go_37 : decode cX7_go 37 = .ok (.iconst 0, 1) := by decide +kernel
theorem dX7_go_38 : decode cX7_go 38 = .ok (.istore 4, 2) := by decide +kernel
theorem dX7_go_40 : decode cX7_go 40 = .ok (.iload_n 2, 1) := by decide +kernel
theorem dX7_go_41 : decode cX7_go 41 = .ok (.iload 4, 2) := by decide +kernel
theorem dX7_go_43 : decode cX7_go 43 = .ok (.ifCond .eq 7, 3) := by decide +kernel
theorem dX7_go_46 : decode cX7_go 46 = .ok (.iconst 1, 1) := by decide +kernel
theorem dX7_go_47 : decode cX7_go 47 = .ok (.goto 4, 3) := by decide +kernel
theorem dX7_go_50 : decode cX7_go 50 = .ok (.iconst 0, 1) := by decide +kernel
theorem dX7_go_51 : decode cX7_go 51 = .ok (.iadd, 1) := by decide +kernel
theorem dX7_go_52 : decode cX7_go 52 = .ok (.istore_n 2, 1) := by decide +kernel
theorem dX7_go_53 : decode cX7_go 53 = .ok (.aload_n 0, 1) := by decide +kernel
theorem dX7_go_54 : decode cX7_go 54 = .ok (.getfield 156, 3) := by decide +kernel
theorem dX7_go_57 : decode cX7_go 57 = .ok (.ifCond .ne 27, 3) := by decide +kernel
theorem dX7_go_60 : decode cX7_go 60 = .ok (.iload 4, 2) := by decide +kernel
theorem dX7_go_62 : decode cX7_go 62 = .ok (.ifCond .ne 7, 3) := by decide +kernel
theorem dX7_go_65 : decode cX7_go 65 = .ok (.iload_n 1, 1) := by decide +kernel
theorem dX7_go_66 : decode cX7_go 66 = .ok (.ifCond .ne 18, 3) := by decide +kernel
theorem dX7_go_69 : decode cX7_go 69 = .ok (.aload_n 0, 1) := by decide +kernel
theorem dX7_go_70 : decode cX7_go 70 = .ok (.getfield 153, 3) := by decide +kernel
theorem dX7_go_73 : decode cX7_go 73 = .ok (.aload_n 0, 1) := by decide +kernel
theorem dX7_go_74 : decode cX7_go 74 = .ok (.getfield 119, 3) := by decide +kernel
theorem dX7_go_77 : decode cX7_go 77 = .ok (.if_icmp .ge 7, 3) := by decide +kernel
theorem dX7_go_80 : decode cX7_go 80 = .ok (.iconst 1, 1) := by decide +kernel
theorem dX7_go_81 : decode cX7_go 81 = .ok (.goto 4, 3) := by decide +kernel
theorem dX7_go_84 : decode cX7_go 84 = .ok (.iconst 0, 1) := by decide +kernel
theorem dX7_go_85 : decode cX7_go 85 = .ok (.istore_n 3, 1) := by decide +kernel
theorem dX7_go_86 : decode cX7_go 86 = .ok (.iload_n 3, 1) := by decide +kernel
theorem dX7_go_87 : decode cX7_go 87 = .ok (.ifCond .eq 26, 3) := by decide +kernel
theorem dX7_go_90 : decode cX7_go 90 = .ok (.aload_n 0, 1) := by decide +kernel
theorem dX7_go_91 : decode cX7_go 91 = .ok (.bipush 59, 2) := by decide +kernel
theorem dX7_go_93 : decode cX7_go 93 = .ok (.bipush 59, 2) := by decide +kernel
theorem dX7_go_95 : decode cX7_go 95 = .ok (.invokevirtual 160, 3) := by decide +kernel
theorem dX7_go_98 : decode cX7_go 98 = .ok (.istore 5, 2) := by decide +kernel
theorem dX7_go_100 : decode cX7_go 100 = .ok (.aload_n 0, 1) := by decide +kernel
theorem dX7_go_101 : decode cX7_go 101 = .ok (.getfield 156, 3) := by decide +kernel
theorem dX7_go_104 : decode cX7_go 104 = .ok (.ifCond .ne 7, 3) := by decide +kernel
theorem dX7_go_107 : decode cX7_go 107 = .ok (.iconst 1, 1) := by decide +kernel
theorem dX7_go_108 : decode cX7_go 108 = .ok (.goto 4, 3) := by decide +kernel
theorem dX7_go_111 : decode cX7_go 111 = .ok (.iconst 0, 1) := by decide +kernel
theorem dX7_go_112 : decode cX7_go 112 = .ok (.istore_n 3, 1) := by decide +kernel
theorem dX7_go_113 : decode cX7_go 113 = .ok (.goto (-99), 3) := by decide +kernel
theorem dX7_go_116 : decode cX7_go 116 = .ok (.iload_n 2, 1) := by decide +kernel
theorem dX7_go_117 : decode cX7_go 117 = .ok (.ireturn, 1) := by decide +kernel
set_option maxRecDepth 20000 in
theorem ggX7_fault_X7_go : GoodIn wsX7_fault wsX7_go := goodIn_r _ [7, 2, 1, 8, 9, 10, 11, 6, 12, 13, 14, 15, 16, 17, 18, 19, 20, 21, 22, 23, 24, 25, 26, 27, 28, 29, 30, 31, 32, 33, 34, 35, 36, 37, 38, 39, 40, 41, 42, 43, 44, 45, 46, 47, 48, 49, 50, 51, 52, 53, 54, 55, 56, 57, 58, 59, 60, 61, 62, 63, 64, 65, 66, 67, 68, 69, 70, 71, 72, 73, 74, 75, 76, 77, 78, 79, 80, 81, 82, 83, 84, 85, 86, 87, 88, 89, 90, 91, 92, 93, 94, 95, 96, 97, 98, 99, 100, 101, 102, 103, 104, 105, 106, 107, 108, 109, 110, 111, 112, 113, 114, 115, 116, 117, 118] (by decide +kernel) (by decide +kernel)
set_option maxRecDepth 20000 in
theorem gX7_fault_X7_go : GoodIn wsX7_fault (wsV RX7 189 RX7 yX7_go wsX7_go) := goodIn_app (goodIn_of _ (by decide +kernel)) ggX7_fault_X7_go
theorem dX7_fault_0 : decode cX7_fault 0 = .ok (.aload_n 0, 1) := by decide +kernel
theorem dX7_fault_1 : decode cX7_fault 1 = .ok (.iconst 0, 1) := by decide +kernel
theorem dX7_fault_2 : decode cX7_fault 2 = .ok (.invokevirtual 189, 3) := by decide +kernel
theorem dX7_fault_5 : decode cX7_fault 5 = .ok (.istore_n 1, 1) := by decide +kernel
theorem dX7_fault_6 : decode cX7_fault 6 = .ok (.aload_n 0, 1) := by decide +kernel
theorem dX7_fault_7 : decode cX7_fault 7 = .ok (.getfield 156, 3) := by decide +kernel
theorem dX7_fault_10 : decode cX7_fault 10 = .ok (.ifCond .eq 10, 3) := by decide +kernel
theorem dX7_fault_13 : decode cX7_fault 13 = .ok (.aload_n 0, 1) := by decide +kernel
theorem dX7_fault_14 : decode cX7_fault 14 = .ok (.getfield 153, 3) := by decide +kernel
theorem dX7_fault_17 : decode cX7_fault 17 = .ok (.goto 5, 3) := by decide +kernel
theorem dX7_fault_20 : decode cX7_fault 20 = .ok (.bipush (-6), 2) := by decide +kernel
theorem dX7_fault_22 : decode cX7_fault 22 = .ok (.ireturn, 1) := by decide +kernel
set_option maxRecDepth 20000 in
theorem ggX7_carryOut_X7_go : GoodIn wsX7_carryOut wsX7_go := goodIn_r _ [7, 8, 1, 2, 9, 10, 11, 6, 12, 13, 14, 15, 16, 17, 18, 19, 20, 21, 22, 23, 24, 25, 26, 27, 28, 29, 30, 31, 32, 33, 34, 35, 36, 37, 38, 39, 40, 41, 42, 43, 44, 45, 46, 47, 48, 49, 50, 51, 52, 53, 54, 55, 56, 57, 58, 59, 60, 61, 62, 63, 64, 65, 66, 67, 68, 69, 70, 71, 72, 73, 74, 75, 76, 77, 78, 79, 80, 81, 82, 83, 84, 85, 86, 87, 88, 89, 90, 91, 92, 93, 94, 95, 96, 97, 98, 99, 100, 101, 102, 109, 110, 111, 112, 113, 114, 115, 116, 117, 118, 119, 120, 121, 122, 123, 124] (by decide +kernel) (by decide +kernel)
set_option maxRecDepth 20000 in
theorem gX7_carryOut_X7_go : GoodIn wsX7_carryOut (wsV RX7 189 RX7 yX7_go wsX7_go) := goodIn_app (goodIn_of _ (by decide +kernel)) ggX7_carryOut_X7_go
set_option maxRecDepth 20000 in
theorem ggX7_carryOut_X7_know : GoodIn wsX7_carryOut wsX7_know := goodIn_r _ [106, 107, 108, 41, 109, 110, 111, 112, 113, 114, 115, 116, 117, 118, 119, 120, 121, 122, 123, 124] (by decide +kernel) (by decide +kernel)
set_option maxRecDepth 20000 in
theorem gX7_carryOut_X7_know : GoodIn wsX7_carryOut (wsV RX7 70 RX7 yX7_know wsX7_know) := goodIn_app (goodIn_of _ (by decide +kernel)) ggX7_carryOut_X7_know
theorem dX7_carryOut_0 : decode cX7_carryOut 0 = .ok (.aload_n 0, 1) := by decide +kernel
theorem dX7_carryOut_1 : decode cX7_carryOut 1 = .ok (.iconst 0, 1) := by decide +kernel
theorem dX7_carryOut_2 : decode cX7_carryOut 2 = .ok (.invokevirtual 189, 3) := by decide +kernel
theorem dX7_carryOut_5 : decode cX7_carryOut 5 = .ok (.istore_n 1, 1) := by decide +kernel
theorem dX7_carryOut_6 : decode cX7_carryOut 6 = .ok (.aload_n 0, 1) := by decide +kernel
theorem dX7_carryOut_7 : decode cX7_carryOut 7 = .ok (.getfield 156, 3) := by decide +kernel
theorem dX7_carryOut_10 : decode cX7_carryOut 10 = .ok (.ifCond .eq 6, 3) := by decide +kernel
theorem dX7_carryOut_13 : decode cX7_carryOut 13 = .ok (.bipush (-3), 2) := by decide +kernel
theorem dX7_carryOut_15 : decode cX7_carryOut 15 = .ok (.ireturn, 1) := by decide +kernel
theorem dX7_carryOut_16 : decode cX7_carryOut 16 = .ok (.aload_n 0, 1) := by decide +kernel
theorem dX7_carryOut_17 : decode cX7_carryOut 17 = .ok (.invokevirtual 70, 3) := by decide +kernel
theorem dX7_carryOut_20 : decode cX7_carryOut 20 = .ok (.aload_n 0, 1) := by decide +kernel
theorem dX7_carryOut_21 : decode cX7_carryOut 21 = .ok (.iconst 1, 1) := by decide +kernel
theorem dX7_carryOut_22 : decode cX7_carryOut 22 = .ok (.invokevirtual 189, 3) := by decide +kernel
theorem dX7_carryOut_25 : decode cX7_carryOut 25 = .ok (.istore_n 2, 1) := by decide +kernel
theorem dX7_carryOut_26 : decode cX7_carryOut 26 = .ok (.aload_n 0, 1) := by decide +kernel
theorem dX7_carryOut_27 : decode cX7_carryOut 27 = .ok (.iconst 0, 1) := by decide +kernel
theorem dX7_carryOut_28 : decode cX7_carryOut 28 = .ok (.putfield 119, 3) := by decide +kernel
theorem dX7_carryOut_31 : decode cX7_carryOut 31 = .ok (.iload_n 2, 1) := by decide +kernel
theorem dX7_carryOut_32 : decode cX7_carryOut 32 = .ok (.ireturn, 1) := by decide +kernel
theorem dX7_undo_0 : decode cX7_undo 0 = .ok (.aload_n 0, 1) := by decide +kernel
theorem dX7_undo_1 : decode cX7_undo 1 = .ok (.getfield 43, 3) := by decide +kernel
theorem dX7_undo_4 : decode cX7_undo 4 = .ok (.ifCond .ne 6, 3) := by decide +kernel
theorem dX7_undo_7 : decode cX7_undo 7 = .ok (.bipush (-5), 2) := by decide +kernel
theorem dX7_undo_9 : decode cX7_undo 9 = .ok (.ireturn, 1) := by decide +kernel
theorem dX7_undo_10 : decode cX7_undo 10 = .ok (.aload_n 0, 1) := by decide +kernel
theorem dX7_undo_11 : decode cX7_undo 11 = .ok (.dup, 1) := by decide +kernel
theorem dX7_undo_12 : decode cX7_undo 12 = .ok (.getfield 43, 3) := by decide +kernel
theorem dX7_undo_15 : decode cX7_undo 15 = .ok (.iconst 1, 1) := by decide +kernel
theorem dX7_undo_16 : decode cX7_undo 16 = .ok (.isub, 1) := by decide +kernel
theorem dX7_undo_17 : decode cX7_undo 17 = .ok (.putfield 43, 3) := by decide +kernel
theorem dX7_undo_20 : decode cX7_undo 20 = .ok (.iconst 0, 1) := by decide +kernel
theorem dX7_undo_21 : decode cX7_undo 21 = .ok (.istore_n 1, 1) := by decide +kernel
theorem dX7_undo_22 : decode cX7_undo 22 = .ok (.iload_n 1, 1) := by decide +kernel
theorem dX7_undo_23 : decode cX7_undo 23 = .ok (.sipush 240, 3) := by decide +kernel
theorem dX7_undo_26 : decode cX7_undo 26 = .ok (.if_icmp .ge 30, 3) := by decide +kernel
theorem dX7_undo_29 : decode cX7_undo 29 = .ok (.aload_n 0, 1) := by decide +kernel
theorem dX7_undo_30 : decode cX7_undo 30 = .ok (.getfield 7, 3) := by decide +kernel
theorem dX7_undo_33 : decode cX7_undo 33 = .ok (.iload_n 1, 1) := by decide +kernel
theorem dX7_undo_34 : decode cX7_undo 34 = .ok (.aload_n 0, 1) := by decide +kernel
theorem dX7_undo_35 : decode cX7_undo 35 = .ok (.getfield 16, 3) := by decide +kernel
theorem dX7_undo_38 : decode cX7_undo 38 = .ok (.sipush 240, 3) := by decide +kernel
theorem dX7_undo_41 : decode cX7_undo 41 = .ok (.aload_n 0, 1) := by decide +kernel
theorem dX7_undo_42 : decode cX7_undo 42 = .ok (.getfield 43, 3) := by decide +kernel
theorem dX7_undo_45 : decode cX7_undo 45 = .ok (.imul, 1) := by decide +kernel
theorem dX7_undo_46 : decode cX7_undo 46 = .ok (.iload_n 1, 1) := by decide +kernel
theorem dX7_undo_47 : decode cX7_undo 47 = .ok (.iadd, 1) := by decide +kernel
theorem dX7_undo_48 : decode cX7_undo 48 = .ok (.iaload, 1) := by decide +kernel
theorem dX7_undo_49 : decode cX7_undo 49 = .ok (.iastore, 1) := by decide +kernel
theorem dX7_undo_50 : decode cX7_undo 50 = .ok (.iinc 1 1, 3) := by decide +kernel
theorem dX7_undo_53 : decode cX7_undo 53 = .ok (.goto (-31), 3) := by decide +kernel
theorem dX7_undo_56 : decode cX7_undo 56 = .ok (.aload_n 0, 1) := by decide +kernel
theorem dX7_undo_57 : decode cX7_undo 57 = .ok (.getfield 43, 3) := by decide +kernel
theorem dX7_undo_60 : decode cX7_undo 60 = .ok (.ireturn, 1) := by decide +kernel
set_option maxRecDepth 20000 in
theorem ggX7_save_X7_in : GoodIn wsX7_save wsX7_in := goodIn_r _ [7] (by decide +kernel) (by decide +kernel)
set_option maxRecDepth 20000 in
theorem gX7_save_X7_in : GoodIn wsX7_save (va_wsS RX7 39 yX7_in wsX7_in) := goodIn_app (goodIn_of _ (by decide +kernel)) ggX7_save_X7_in
theorem dX7_save_0 : decode cX7_save 0 = .ok (.iload_n 1, 1) := by decide +kernel
theorem dX7_save_1 : decode cX7_save 1 = .ok (.iconst 0, 1) := by decide +kernel
theorem dX7_save_2 : decode cX7_save 2 = .ok (.iconst 1, 1) := by decide +kernel
theorem dX7_save_3 : decode cX7_save 3 = .ok (.invokestatic 39, 3) := by decide +kernel
theorem dX7_save_6 : decode cX7_save 6 = .ok (.ifCond .ne 6, 3) := by decide +kernel
theorem dX7_save_9 : decode cX7_save 9 = .ok (.bipush (-2), 2) := by decide +kernel
theorem dX7_save_11 : decode cX7_save 11 = .ok (.ireturn, 1) := by decide +kernel
theorem dX7_save_12 : decode cX7_save 12 = .ok (.iconst 0, 1) := by decide +kernel
theorem dX7_save_13 : decode cX7_save 13 = .ok (.istore_n 2, 1) := by decide +kernel
theorem dX7_save_14 : decode cX7_save 14 = .ok (.iload_n 2, 1) := by decide +kernel
theorem dX7_save_15 : decode cX7_save 15 = .ok (.sipush 240, 3) := by decide +kernel
theorem dX7_save_18 : decode cX7_save 18 = .ok (.if_icmp .ge 27, 3) := by decide +kernel
theorem dX7_save_21 : decode cX7_save 21 = .ok (.aload_n 0, 1) := by decide +kernel
theorem dX7_save_22 : decode cX7_save 22 = .ok (.getfield 19, 3) := by decide +kernel
theorem dX7_save_25 : decode cX7_save 25 = .ok (.sipush 240, 3) := by decide +kernel
theorem dX7_save_28 : decode cX7_save 28 = .ok (.iload_n 1, 1) := by decide +kernel
theorem dX7_save_29 : decode cX7_save 29 = .ok (.imul, 1) := by decide +kernel
theorem dX7_save_30 : decode cX7_save 30 = .ok (.iload_n 2, 1) := by decide +kernel
theorem dX7_save_31 : decode cX7_save 31 = .ok (.iadd, 1) := by decide +kernel
theorem dX7_save_32 : decode cX7_save 32 = .ok (.aload_n 0, 1) := by decide +kernel
theorem dX7_save_33 : decode cX7_save 33 = .ok (.getfield 7, 3) := by decide +kernel
theorem dX7_save_36 : decode cX7_save 36 = .ok (.iload_n 2, 1) := by decide +kernel
theorem dX7_save_37 : decode cX7_save 37 = .ok (.iaload, 1) := by decide +kernel
theorem dX7_save_38 : decode cX7_save 38 = .ok (.iastore, 1) := by decide +kernel
theorem dX7_save_39 : decode cX7_save 39 = .ok (.iinc 2 1, 3) := by decide +kernel
theorem dX7_save_42 : decode cX7_save 42 = .ok (.goto (-28), 3) := by decide +kernel
theorem dX7_save_45 : decode cX7_save 45 = .ok (.aload_n 0, 1) := by decide +kernel
theorem dX7_save_46 : decode cX7_save 46 = .ok (.getfield 22, 3) := by decide +kernel
theorem dX7_save_49 : decode cX7_save 49 = .ok (.iload_n 1, 1) := by decide +kernel
theorem dX7_save_50 : decode cX7_save 50 = .ok (.iconst 1, 1) := by decide +kernel
theorem dX7_save_51 : decode cX7_save 51 = .ok (.bastore, 1) := by decide +kernel
theorem dX7_save_52 : decode cX7_save 52 = .ok (.aload_n 0, 1) := by decide +kernel
theorem dX7_save_53 : decode cX7_save 53 = .ok (.getfield 7, 3) := by decide +kernel
theorem dX7_save_56 : decode cX7_save 56 = .ok (.iconst 5, 1) := by decide +kernel
theorem dX7_save_57 : decode cX7_save 57 = .ok (.iaload, 1) := by decide +kernel
theorem dX7_save_58 : decode cX7_save 58 = .ok (.ireturn, 1) := by decide +kernel
set_option maxRecDepth 20000 in
theorem ggX7_restore_X7_in : GoodIn wsX7_restore wsX7_in := goodIn_r _ [7] (by decide +kernel) (by decide +kernel)
set_option maxRecDepth 20000 in
theorem gX7_restore_X7_in : GoodIn wsX7_restore (va_wsS RX7 39 yX7_in wsX7_in) := goodIn_app (goodIn_of _ (by decide +kernel)) ggX7_restore_X7_in
set_option maxRecDepth 20000 in
theorem ggX7_restore_X7_know : GoodIn wsX7_restore wsX7_know := goodIn_r _ [11, 12, 13, 2, 14, 15, 16, 17, 18, 19, 20, 21, 22, 23, 24, 25, 26, 27, 28, 29] (by decide +kernel) (by decide +kernel)
set_option maxRecDepth 20000 in
theorem gX7_restore_X7_know : GoodIn wsX7_restore (wsV RX7 70 RX7 yX7_know wsX7_know) := goodIn_app (goodIn_of _ (by decide +kernel)) ggX7_restore_X7_know
theorem dX7_restore_0 : decode cX7_restore 0 = .ok (.iload_n 1, 1) := by decide +kernel
theorem dX7_restore_1 : decode cX7_restore 1 = .ok (.iconst 0, 1) := by decide +kernel
theorem dX7_restore_2 : decode cX7_restore 2 = .ok (.iconst 1, 1) := by decide +kernel
theorem dX7_restore_3 : decode cX7_restore 3 = .ok (.invokestatic 39, 3) := by decide +kernel
theorem dX7_restore_6 : decode cX7_restore 6 = .ok (.ifCond .ne 6, 3) := by decide +kernel
theorem dX7_restore_9 : decode cX7_restore 9 = .ok (.bipush (-2), 2) := by decide +kernel
theorem dX7_restore_11 : decode cX7_restore 11 = .ok (.ireturn, 1) := by decide +kernel
theorem dX7_restore_12 : decode cX7_restore 12 = .ok (.aload_n 0, 1) := by decide +kernel
theorem dX7_restore_13 : decode cX7_restore 13 = .ok (.getfield 22, 3) := by decide +kernel
theorem dX7_restore_16 : decode cX7_restore 16 = .ok (.iload_n 1, 1) := by decide +kernel
theorem dX7_restore_17 : decode cX7_restore 17 = .ok (.baload, 1) := by decide +kernel
theorem dX7_restore_18 : decode cX7_restore 18 = .ok (.ifCond .ne 6, 3) := by decide +kernel
theorem dX7_restore_21 : decode cX7_restore 21 = .ok (.bipush (-5), 2) := by decide +kernel
theorem dX7_restore_23 : decode cX7_restore 23 = .ok (.ireturn, 1) := by decide +kernel
theorem dX7_restore_24 : decode cX7_restore 24 = .ok (.aload_n 0, 1) := by decide +kernel
theorem dX7_restore_25 : decode cX7_restore 25 = .ok (.invokevirtual 70, 3) := by decide +kernel
theorem dX7_restore_28 : decode cX7_restore 28 = .ok (.iconst 0, 1) := by decide +kernel
theorem dX7_restore_29 : decode cX7_restore 29 = .ok (.istore_n 2, 1) := by decide +kernel
theorem dX7_restore_30 : decode cX7_restore 30 = .ok (.iload_n 2, 1) := by decide +kernel
theorem dX7_restore_31 : decode cX7_restore 31 = .ok (.sipush 240, 3) := by decide +kernel
theorem dX7_restore_34 : decode cX7_restore 34 = .ok (.if_icmp .ge 27, 3) := by decide +kernel
theorem dX7_restore_37 : decode cX7_restore 37 = .ok (.aload_n 0, 1) := by decide +kernel
theorem dX7_restore_38 : decode cX7_restore 38 = .ok (.getfield 7, 3) := by decide +kernel
theorem dX7_restore_41 : decode cX7_restore 41 = .ok (.iload_n 2, 1) := by decide +kernel
theorem dX7_restore_42 : decode cX7_restore 42 = .ok (.aload_n 0, 1) := by decide +kernel
theorem dX7_restore_43 : decode cX7_restore 43 = .ok (.getfield 19, 3) := by decide +kernel
theorem dX7_restore_46 : decode cX7_restore 46 = .ok (.sipush 240, 3) := by decide +kernel
theorem dX7_restore_49 : decode cX7_restore 49 = .ok (.iload_n 1, 1) := by decide +kernel
theorem dX7_restore_50 : decode cX7_restore 50 = .ok (.imul, 1) := by decide +kernel
theorem dX7_restore_51 : decode cX7_restore 51 = .ok (.iload_n 2, 1) := by decide +kernel
theorem dX7_restore_52 : decode cX7_restore 52 = .ok (.iadd, 1) := by decide +kernel
theorem dX7_restore_53 : decode cX7_restore 53 = .ok (.iaload, 1) := by decide +kernel
theorem dX7_restore_54 : decode cX7_restore 54 = .ok (.iastore, 1) := by decide +kernel
theorem dX7_restore_55 : decode cX7_restore 55 = .ok (.iinc 2 1, 3) := by decide +kernel
theorem dX7_restore_58 : decode cX7_restore 58 = .ok (.goto (-28), 3) := by decide +kernel
theorem dX7_restore_61 : decode cX7_restore 61 = .ok (.aload_n 0, 1) := by decide +kernel
theorem dX7_restore_62 : decode cX7_restore 62 = .ok (.getfield 7, 3) := by decide +kernel
theorem dX7_restore_65 : decode cX7_restore 65 = .ok (.iconst 5, 1) := by decide +kernel
theorem dX7_restore_66 : decode cX7_restore 66 = .ok (.iaload, 1) := by decide +kernel
theorem dX7_restore_67 : decode cX7_restore 67 = .ok (.ireturn, 1) := by decide +kernel
theorem dJ13_bitCount_95d88_0 : decode cJ13_bitCount_95d88 0 = .ok (.lload_n 0, 1) := by decide +kernel
theorem dJ13_bitCount_95d88_1 : decode cJ13_bitCount_95d88 1 = .ok (.lload_n 0, 1) := by decide +kernel
theorem dJ13_bitCount_95d88_2 : decode cJ13_bitCount_95d88 2 = .ok (.iconst 1, 1) := by decide +kernel
theorem dJ13_bitCount_95d88_3 : decode cJ13_bitCount_95d88 3 = .ok (.lushr, 1) := by decide +kernel
theorem dJ13_bitCount_95d88_4 : decode cJ13_bitCount_95d88 4 = .ok (.ldc2_w 314, 3) := by decide +kernel
theorem dJ13_bitCount_95d88_7 : decode cJ13_bitCount_95d88 7 = .ok (.land, 1) := by decide +kernel
theorem dJ13_bitCount_95d88_8 : decode cJ13_bitCount_95d88 8 = .ok (.lsub, 1) := by decide +kernel
theorem dJ13_bitCount_95d88_9 : decode cJ13_bitCount_95d88 9 = .ok (.lstore_n 0, 1) := by decide +kernel
theorem dJ13_bitCount_95d88_10 : decode cJ13_bitCount_95d88 10 = .ok (.lload_n 0, 1) := by decide +kernel
theorem dJ13_bitCount_95d88_11 : decode cJ13_bitCount_95d88 11 = .ok (.ldc2_w 316, 3) := by decide +kernel
theorem dJ13_bitCount_95d88_14 : decode cJ13_bitCount_95d88 14 = .ok (.land, 1) := by decide +kernel
theorem dJ13_bitCount_95d88_15 : decode cJ13_bitCount_95d88 15 = .ok (.lload_n 0, 1) := by decide +kernel
theorem dJ13_bitCount_95d88_16 : decode cJ13_bitCount_95d88 16 = .ok (.iconst 2, 1) := by decide +kernel
theorem dJ13_bitCount_95d88_17 : decode cJ13_bitCount_95d88 17 = .ok (.lushr, 1) := by decide +kernel
theorem dJ13_bitCount_95d88_18 : decode cJ13_bitCount_95d88 18 = .ok (.ldc2_w 316, 3) := by decide +kernel
theorem dJ13_bitCount_95d88_21 : decode cJ13_bitCount_95d88 21 = .ok (.land, 1) := by decide +kernel
theorem dJ13_bitCount_95d88_22 : decode cJ13_bitCount_95d88 22 = .ok (.ladd, 1) := by decide +kernel
theorem dJ13_bitCount_95d88_23 : decode cJ13_bitCount_95d88 23 = .ok (.lstore_n 0, 1) := by decide +kernel
theorem dJ13_bitCount_95d88_24 : decode cJ13_bitCount_95d88 24 = .ok (.lload_n 0, 1) := by decide +kernel
theorem dJ13_bitCount_95d88_25 : decode cJ13_bitCount_95d88 25 = .ok (.lload_n 0, 1) := by decide +kernel
theorem dJ13_bitCount_95d88_26 : decode cJ13_bitCount_95d88 26 = .ok (.iconst 4, 1) := by decide +kernel
theorem dJ13_bitCount_95d88_27 : decode cJ13_bitCount_95d88 27 = .ok (.lushr, 1) := by decide +kernel
theorem dJ13_bitCount_95d88_28 : decode cJ13_bitCount_95d88 28 = .ok (.ladd, 1) := by decide +kernel
theorem dJ13_bitCount_95d88_29 : decode cJ13_bitCount_95d88 29 = .ok (.ldc2_w 318, 3) := by decide +kernel
theorem dJ13_bitCount_95d88_32 : decode cJ13_bitCount_95d88 32 = .ok (.land, 1) := by decide +kernel
theorem dJ13_bitCount_95d88_33 : decode cJ13_bitCount_95d88 33 = .ok (.lstore_n 0, 1) := by decide +kernel
theorem dJ13_bitCount_95d88_34 : decode cJ13_bitCount_95d88 34 = .ok (.lload_n 0, 1) := by decide +kernel
theorem dJ13_bitCount_95d88_35 : decode cJ13_bitCount_95d88 35 = .ok (.lload_n 0, 1) := by decide +kernel
theorem dJ13_bitCount_95d88_36 : decode cJ13_bitCount_95d88 36 = .ok (.bipush 8, 2) := by decide +kernel
theorem dJ13_bitCount_95d88_38 : decode cJ13_bitCount_95d88 38 = .ok (.lushr, 1) := by decide +kernel
theorem dJ13_bitCount_95d88_39 : decode cJ13_bitCount_95d88 39 = .ok (.ladd, 1) := by decide +kernel
theorem dJ13_bitCount_95d88_40 : decode cJ13_bitCount_95d88 40 = .ok (.lstore_n 0, 1) := by decide +kernel
theorem dJ13_bitCount_95d88_41 : decode cJ13_bitCount_95d88 41 = .ok (.lload_n 0, 1) := by decide +kernel
theorem dJ13_bitCount_95d88_42 : decode cJ13_bitCount_95d88 42 = .ok (.lload_n 0, 1) := by decide +kernel
theorem dJ13_bitCount_95d88_43 : decode cJ13_bitCount_95d88 43 = .ok (.bipush 16, 2) := by decide +kernel
theorem dJ13_bitCount_95d88_45 : decode cJ13_bitCount_95d88 45 = .ok (.lushr, 1) := by decide +kernel
theorem dJ13_bitCount_95d88_46 : decode cJ13_bitCount_95d88 46 = .ok (.ladd, 1) := by decide +kernel
theorem dJ13_bitCount_95d88_47 : decode cJ13_bitCount_95d88 47 = .ok (.lstore_n 0, 1) := by decide +kernel
theorem dJ13_bitCount_95d88_48 : decode cJ13_bitCount_95d88 48 = .ok (.lload_n 0, 1) := by decide +kernel
theorem dJ13_bitCount_95d88_49 : decode cJ13_bitCount_95d88 49 = .ok (.lload_n 0, 1) := by decide +kernel
theorem dJ13_bitCount_95d88_50 : decode cJ13_bitCount_95d88 50 = .ok (.bipush 32, 2) := by decide +kernel
theorem dJ13_bitCount_95d88_52 : decode cJ13_bitCount_95d88 52 = .ok (.lushr, 1) := by decide +kernel
theorem dJ13_bitCount_95d88_53 : decode cJ13_bitCount_95d88 53 = .ok (.ladd, 1) := by decide +kernel
theorem dJ13_bitCount_95d88_54 : decode cJ13_bitCount_95d88 54 = .ok (.lstore_n 0, 1) := by decide +kernel
theorem dJ13_bitCount_95d88_55 : decode cJ13_bitCount_95d88 55 = .ok (.lload_n 0, 1) := by decide +kernel
theorem dJ13_bitCount_95d88_56 : decode cJ13_bitCount_95d88 56 = .ok (.l2i, 1) := by decide +kernel
theorem dJ13_bitCount_95d88_57 : decode cJ13_bitCount_95d88 57 = .ok (.bipush 127, 2) := by decide +kernel
theorem dJ13_bitCount_95d88_59 : decode cJ13_bitCount_95d88 59 = .ok (.iand, 1) := by decide +kernel
theorem dJ13_bitCount_95d88_60 : decode cJ13_bitCount_95d88 60 = .ok (.ireturn, 1) := by decide +kernel
theorem dJ9_floorMod_7cf53_0 : decode cJ9_floorMod_7cf53 0 = .ok (.iload_n 0, 1) := by decide +kernel
theorem dJ9_floorMod_7cf53_1 : decode cJ9_floorMod_7cf53 1 = .ok (.iload_n 1, 1) := by decide +kernel
theorem dJ9_floorMod_7cf53_2 : decode cJ9_floorMod_7cf53 2 = .ok (.irem, 1) := by decide +kernel
theorem dJ9_floorMod_7cf53_3 : decode cJ9_floorMod_7cf53 3 = .ok (.istore_n 2, 1) := by decide +kernel
theorem dJ9_floorMod_7cf53_4 : decode cJ9_floorMod_7cf53 4 = .ok (.iload_n 0, 1) := by decide +kernel
theorem dJ9_floorMod_7cf53_5 : decode cJ9_floorMod_7cf53 5 = .ok (.iload_n 1, 1) := by decide +kernel
theorem dJ9_floorMod_7cf53_6 : decode cJ9_floorMod_7cf53 6 = .ok (.ixor, 1) := by decide +kernel
theorem dJ9_floorMod_7cf53_7 : decode cJ9_floorMod_7cf53 7 = .ok (.ifCond .ge 11, 3) := by decide +kernel
theorem dJ9_floorMod_7cf53_10 : decode cJ9_floorMod_7cf53 10 = .ok (.iload_n 2, 1) := by decide +kernel
theorem dJ9_floorMod_7cf53_11 : decode cJ9_floorMod_7cf53 11 = .ok (.ifCond .eq 7, 3) := by decide +kernel
theorem dJ9_floorMod_7cf53_14 : decode cJ9_floorMod_7cf53 14 = .ok (.iload_n 2, 1) := by decide +kernel
theorem dJ9_floorMod_7cf53_15 : decode cJ9_floorMod_7cf53 15 = .ok (.iload_n 1, 1) := by decide +kernel
theorem dJ9_floorMod_7cf53_16 : decode cJ9_floorMod_7cf53 16 = .ok (.iadd, 1) := by decide +kernel
theorem dJ9_floorMod_7cf53_17 : decode cJ9_floorMod_7cf53 17 = .ok (.ireturn, 1) := by decide +kernel
theorem dJ9_floorMod_7cf53_18 : decode cJ9_floorMod_7cf53 18 = .ok (.iload_n 2, 1) := by decide +kernel
theorem dJ9_floorMod_7cf53_19 : decode cJ9_floorMod_7cf53 19 = .ok (.ireturn, 1) := by decide +kernel
theorem dJ9_max_7cf53_0 : decode cJ9_max_7cf53 0 = .ok (.iload_n 0, 1) := by decide +kernel
theorem dJ9_max_7cf53_1 : decode cJ9_max_7cf53 1 = .ok (.iload_n 1, 1) := by decide +kernel
theorem dJ9_max_7cf53_2 : decode cJ9_max_7cf53 2 = .ok (.if_icmp .lt 7, 3) := by decide +kernel
theorem dJ9_max_7cf53_5 : decode cJ9_max_7cf53 5 = .ok (.iload_n 0, 1) := by decide +kernel
theorem dJ9_max_7cf53_6 : decode cJ9_max_7cf53 6 = .ok (.goto 4, 3) := by decide +kernel
theorem dJ9_max_7cf53_9 : decode cJ9_max_7cf53 9 = .ok (.iload_n 1, 1) := by decide +kernel
theorem dJ9_max_7cf53_10 : decode cJ9_max_7cf53 10 = .ok (.ireturn, 1) := by decide +kernel
theorem dJ9_min_7cf53_0 : decode cJ9_min_7cf53 0 = .ok (.iload_n 0, 1) := by decide +kernel
theorem dJ9_min_7cf53_1 : decode cJ9_min_7cf53 1 = .ok (.iload_n 1, 1) := by decide +kernel
theorem dJ9_min_7cf53_2 : decode cJ9_min_7cf53 2 = .ok (.if_icmp .gt 7, 3) := by decide +kernel
theorem dJ9_min_7cf53_5 : decode cJ9_min_7cf53 5 = .ok (.iload_n 0, 1) := by decide +kernel
theorem dJ9_min_7cf53_6 : decode cJ9_min_7cf53 6 = .ok (.goto 4, 3) := by decide +kernel
theorem dJ9_min_7cf53_9 : decode cJ9_min_7cf53 9 = .ok (.iload_n 1, 1) := by decide +kernel
theorem dJ9_min_7cf53_10 : decode cJ9_min_7cf53 10 = .ok (.ireturn, 1) := by decide +kernel
end
section
/-! The common words: pure values, guards, what surrounds every contract. -/
abbrev DV : Type := Nat → Nat → Int32
/-- component k is f -/
def vs (v : DV) (k : Nat) (f : Nat → Int32) : DV := fun j => cond (Nat.beq j k) f (v j)
/-- of the components ks take the second's -/
def mx (ks : List Nat) (v u : DV) : DV := fun j => cond (ks.any (fun i => Nat.beq j i)) (u j) (v j)
def ixb (i : Int32) (n : Nat) : Bool := !(decide (i < 0)) && decide (i.toNatClampNeg < n)
def ck {α : Type} (b : Bool) (k : Option α) : Option α := cond b k none
def bd1 {α β : Type} (o : Option α) (k : α → Option β) : Option β := match o with | none => none | some x => k x
def bd2 {α γ β : Type} (o : Option (α × γ)) (k : α → γ → Option β) : Option β := match o with | none => none | some x => k x.1 x.2
theorem ck_1 {α : Type} {b : Bool} {k res : Option α} (h : ck b k = res) (hne : res ≠ none) : b = true ∧ k = res := by
  cases b with
  | true => exact ⟨rfl, h⟩
  | false => exact absurd h.symm hne
theorem bd1_1 {α β : Type} {o : Option α} {k : α → Option β} {res : Option β} (h : bd1 o k = res) (hne : res ≠ none) : o ≠ none := by
  intro ho; subst ho; exact hne h.symm
theorem bd1_2 {α β : Type} {o : Option α} {k : α → Option β} {res : Option β} (h : bd1 o k = res) {x : α} (hx : o = some x) : k x = res := by
  subst hx; exact h
theorem bd2_1 {α γ β : Type} {o : Option (α × γ)} {k : α → γ → Option β} {res : Option β} (h : bd2 o k = res) (hne : res ≠ none) : o ≠ none := by
  intro ho; subst ho; exact hne h.symm
theorem bd2_2 {α γ β : Type} {o : Option (α × γ)} {k : α → γ → Option β} {res : Option β} (h : bd2 o k = res) {x : α} {y : γ} (hx : o = some (x, y)) : k x y = res := by
  subst hx; exact h
theorem it_1 {α : Type} {c : Prop} [Decidable c] {a b res : α} (h : (if c then a else b) = res) (hc : c) : a = res := by
  rw [if_pos hc] at h; exact h
theorem it_2 {α : Type} {c : Prop} [Decidable c] {a b res : α} (h : (if c then a else b) = res) (hc : ¬ c) : b = res := by
  rw [if_neg hc] at h; exact h
theorem ixb_1 {i : Int32} {n : Nat} (h : ixb i n = true) : vp_in i n := by
  simp only [ixb, Bool.and_eq_true, Bool.not_eq_true', decide_eq_false_iff_not, decide_eq_true_eq] at h
  intro hh
  rcases hh with h1 | h1
  · exact h.1 h1
  · omega
theorem none_1 {α : Type} {res : Option α} (h : (none : Option α) = res) (hne : res ≠ none) : False := hne h.symm
/-- the addresses' classes of arrays: int, char, boolean, rows of desks -/
abbrev Gt : Type := va_G × (Nat → ClassId)
abbrev tyL (g : Nat → ClassId) : List (ClassId × FieldType) := [(g 0, .int), (g 1, .char), (g 2, .boolean), (g 3, .object RX0)]
/-- the links between nest mates that the class's own calls take -/
abbrev nestW : List Cond := [.methodLinkNest RX6 9 yX0_init RX6, .methodLinkNest RX0 17 yX1_init RX6, .methodLinkNest RX0 24 yX3_init RX6, .methodLinkNest RX6 18 yX5_init RX6, .methodLinkNest RX6 25 yX4_init RX6, .methodLinkNest RX6 32 yX2_init RX6, .methodLinkNest RX2 21 yX0_init RX6, .methodLinkNest RX0 29 yX6_copy RX6, .methodLinkNest RX1 24 yX6_copy RX6, .methodLinkNest RX3 37 yX6_copy RX6, .methodLinkNest RX0 47 yX6_isMood RX6, .methodLinkNest RX0 89 yX6_isHour RX6, .methodLinkNest RX4 52 yX6_isMood RX6]
theorem nest_warm : ∀ w ∈ nestW, ∀ {s U : State}, s.WarmedH U.vm → va_Nw w s → va_Nw w U := by
  intro w hw s U hW h
  simp only [nestW, List.mem_cons, List.not_mem_nil, or_false] at hw
  rcases hw with rfl | rfl | rfl | rfl | rfl | rfl | rfl | rfl | rfl | rfl | rfl | rfl | rfl <;> exact va_Nw.warmM hW h
theorem nest_tab : ∀ w ∈ nestW, w.onTables = true := by
  intro w hw
  simp only [nestW, List.mem_cons, List.not_mem_nil, or_false] at hw
  rcases hw with rfl | rfl | rfl | rfl | rfl | rfl | rfl | rfl | rfl | rfl | rfl | rfl | rfl <;> rfl
/-- what surrounds every call: the classes as the tables have them, and the nest's links -/
def amb (G : Gt) (U : State) : Prop := va_K G.1 vwCl (tyL G.2) U ∧ (∀ w ∈ nestW, va_Nw w U) ∧ va_AO RX0 U
theorem amb_warm {G : Gt} {s U : State} (hW : s.WarmedH U.vm) (h : amb G s) : amb G U := ⟨va_K.moved hW.alike h.1, fun w hw => nest_warm w hw hW (h.2.1 w hw), va_AO.moved hW.alike h.2.2⟩
theorem amb_same {G : Gt} {s U : State} (hW : s.vm = U.vm) (h : amb G s) : amb G U := ⟨va_K.moved (u := s) (U := U) (by rw [hW]; exact Vm.Alike.refl U.vm) h.1, fun w hw => (h.2.1 w hw).same (nest_tab w hw) hW, va_AO.moved (by rw [hW]; exact Vm.Alike.refl U.vm) h.2.2⟩
/-- the start of a method that only reads -/
def pcR (G : Gt) (av : List Value) (ws : va_W) : Array Value → State → Prop := va_Pc av (fun U => va_P G.1 vwCl ws U.heap ∧ amb G U)
theorem pcR_blind {G : Gt} {av : List Value} {ws : va_W} : FrameBlind (pcR G av ws) := fun _ U g mk q => ⟨q.1, q.2.1, amb_same (s := U) (U := U.calling g mk _) rfl q.2.2⟩
theorem pcR_pre {G : Gt} {av : List Value} {ws : va_W} {s : State} {H : Heap} (hP : va_P G.1 vwCl ws H) (ha : amb G s) : ∀ U : State, U.heap = H → s.WarmedH U.vm → pcR G av ws av.toArray U := fun U hU hW => ⟨rfl, by rw [hU]; exact hP, amb_warm hW ha⟩
/-- the start of a method that writes -/
def pcW (G : Gt) (av : List Value) (ws : va_W) (sz : Nat) : Array Value → State → Prop := va_Pc av (fun U => U.heap.size = sz ∧ va_P G.1 vwCl ws U.heap ∧ va_D (fun _ => True) ws ∧ amb G U)
theorem pcW_blind {G : Gt} {av : List Value} {ws : va_W} {sz : Nat} : FrameBlind (pcW G av ws sz) := fun _ U g mk q => ⟨q.1, q.2.1, q.2.2.1, q.2.2.2.1, amb_same (s := U) (U := U.calling g mk _) rfl q.2.2.2.2⟩
theorem pcW_pre {G : Gt} {av : List Value} {ws : va_W} {s : State} {H : Heap} {A : Nat → Prop} (hP : va_P G.1 vwCl ws H) (hD : va_D A ws) (ha : amb G s) : ∀ U : State, U.heap = H → s.WarmedH U.vm → pcW G av ws H.size av.toArray U := fun U hU hW => ⟨rfl, by rw [hU], by rw [hU]; exact hP, hD.weaken (fun _ _ _ _ => trivial), amb_warm hW ha⟩
/-- the world behind a method that writes -/
def atW (G : Gt) (ws : va_W) (A : Nat → Prop) (t : State) : Prop := va_P G.1 vwCl ws t.heap ∧ va_D A ws
theorem sR {A : Nat → Prop} {H : Heap} : va_S A H H [] := va_S.rf
def nn64 (r : UInt64) : Bool := decide (r &&& 0x7fffffffffffffff ≤ 0x7ff0000000000000)
def nn32 (r : UInt32) : Bool := decide (r &&& 0x7fffffff ≤ 0x7f800000)
theorem nn64_1 {r : UInt64} (h : nn64 r = true) : vf_n64 r := of_decide_eq_true (p := r &&& 0x7fffffffffffffff ≤ 0x7ff0000000000000) h
theorem nn32_1 {r : UInt32} (h : nn32 r = true) : vf_n32 r := of_decide_eq_true (p := r &&& 0x7fffffff ≤ 0x7f800000) h
def okZ (x : Int32) : Bool := decide (x = 0) || decide (x = 1)
def okC (x : Int32) : Bool := decide ((x.toUInt32 % 65536).toInt32 = x)
theorem okZ_0 {x : Int32} (h : okZ x = true) : x = 0 ∨ x = 1 := by
  simp only [okZ, Bool.or_eq_true, decide_eq_true_eq] at h; exact h
theorem okZ_1 {x : Int32} (h : okZ x = true) : narrow .boolean (.int x) = .int x := by
  rcases okZ_0 h with rfl | rfl <;> rfl
theorem okZ_2 {x : Int32} (h : okZ x = true) : fits .boolean (.int x) = true := by
  rcases okZ_0 h with rfl | rfl <;> rfl
theorem okC_1 {x : Int32} (h : okC x = true) : narrow .char (.int x) = .int x := by
  have h1 : (x.toUInt32 % 65536).toInt32 = x := of_decide_eq_true h
  have h2 := pk_nc x
  rw [h1] at h2
  exact h2
theorem ne_i {x y : Int32} {k : Int} (h : ¬ x = y) (hk : y.toInt = k) : x.toInt ≠ k := fun e => h (Int32.toInt_inj.mp (e.trans hk.symm))
section CW
variable {p : Program} {l : Launch} {e : Env} {R : Room} {s : State} {m : MethodId} {args : Array Value} {below : List Frame} {meth : Method} {c : Code} {H : Heap} {locs : List Loc} {cells slots : Nat} {Q : State → Prop}
variable {pc : Nat} {ls : Array Slot} {rest st0 : List Value} {aa : Array Value} {A : Nat → Prop} {mc ms : Nat} {G : Gt} {ws wc wr : va_W}
theorem cwi {S : Type} {post : Int32 → S → Prop} {w1 : S → va_W} (hr : va_Run p l e R s m args below meth c H locs cells slots mc ms (F0 m pc ls st0) rest (va_Qi post (fun u t => atW G (w1 u) (va_A wc H.size) t) (va_A wc H.size) aa) (va_A wc H.size)) (hP : va_P G.1 vwCl ws H) (hD : va_D A ws) (hS : va_S A s.heap H locs) (hA : ∀ q : Nat, s.heap.size ≤ q → A q) (isC isR : List Nat) (hC : isC.map (fun i => ws[i]?) = wc.map some) (hR : isR.map (fun i => ws[i]?) = wr.map some) (hn : va_nd isR = true) (hdis : ∀ i ∈ isR, i ∉ isC)
    (kk : ∀ (r : Int32) (u : S) (H1 : Heap) (locs1 : List Loc), post r u → va_P G.1 vwCl (wr ++ w1 u) H1 → va_D A (wr ++ w1 u) → va_S A s.heap H1 locs1 → W p l e R s m args below meth c H1 locs1 (cells + mc) (slots + ms) Q (F0 m (pc + 3) ls (.int r :: rest))) : W p l e R s m args below meth c H locs cells slots Q (F0 m pc ls st0) := by
  have hF := va_free hD hS hA isC hC
  refine va_calli hr hS (fun q _ h => hF q h) hF (fun r u t H1 locs1 ht _ hw hB _ hk1 hS1 => ?_)
  obtain ⟨hP1, hD1⟩ := hB
  rw [ht] at hP1
  obtain ⟨j1, j2⟩ := va_join (wr := wr) hP hD isC isR hC hR hn hdis hk1 hF hP1 hD1
  exact kk r u H1 locs1 hw j1 j2 hS1
theorem cwl {S : Type} {post : Int64 → S → Prop} {w1 : S → va_W} (hr : va_Run p l e R s m args below meth c H locs cells slots mc ms (F0 m pc ls st0) rest (va_Ql post (fun u t => atW G (w1 u) (va_A wc H.size) t) (va_A wc H.size) aa) (va_A wc H.size)) (hP : va_P G.1 vwCl ws H) (hD : va_D A ws) (hS : va_S A s.heap H locs) (hA : ∀ q : Nat, s.heap.size ≤ q → A q) (isC isR : List Nat) (hC : isC.map (fun i => ws[i]?) = wc.map some) (hR : isR.map (fun i => ws[i]?) = wr.map some) (hn : va_nd isR = true) (hdis : ∀ i ∈ isR, i ∉ isC)
    (kk : ∀ (r : Int64) (u : S) (H1 : Heap) (locs1 : List Loc), post r u → va_P G.1 vwCl (wr ++ w1 u) H1 → va_D A (wr ++ w1 u) → va_S A s.heap H1 locs1 → W p l e R s m args below meth c H1 locs1 (cells + mc) (slots + ms) Q (F0 m (pc + 3) ls (.long r :: rest))) : W p l e R s m args below meth c H locs cells slots Q (F0 m pc ls st0) := by
  have hF := va_free hD hS hA isC hC
  refine va_calll hr hS (fun q _ h => hF q h) hF (fun r u t H1 locs1 ht _ hw hB _ hk1 hS1 => ?_)
  obtain ⟨hP1, hD1⟩ := hB
  rw [ht] at hP1
  obtain ⟨j1, j2⟩ := va_join (wr := wr) hP hD isC isR hC hR hn hdis hk1 hF hP1 hD1
  exact kk r u H1 locs1 hw j1 j2 hS1
theorem cwv {S : Type} {post : S → Prop} {w1 : S → va_W} (hr : va_Run p l e R s m args below meth c H locs cells slots mc ms (F0 m pc ls st0) rest (va_Qv post (fun u t => atW G (w1 u) (va_A wc H.size) t) (va_A wc H.size) aa) (va_A wc H.size)) (hP : va_P G.1 vwCl ws H) (hD : va_D A ws) (hS : va_S A s.heap H locs) (hA : ∀ q : Nat, s.heap.size ≤ q → A q) (isC isR : List Nat) (hC : isC.map (fun i => ws[i]?) = wc.map some) (hR : isR.map (fun i => ws[i]?) = wr.map some) (hn : va_nd isR = true) (hdis : ∀ i ∈ isR, i ∉ isC)
    (kk : ∀ (u : S) (H1 : Heap) (locs1 : List Loc), post u → va_P G.1 vwCl (wr ++ w1 u) H1 → va_D A (wr ++ w1 u) → va_S A s.heap H1 locs1 → W p l e R s m args below meth c H1 locs1 (cells + mc) (slots + ms) Q (F0 m (pc + 3) ls rest)) : W p l e R s m args below meth c H locs cells slots Q (F0 m pc ls st0) := by
  have hF := va_free hD hS hA isC hC
  refine va_callv hr hS (fun q _ h => hF q h) hF (fun u t H1 locs1 ht _ hw hB _ hk1 hS1 => ?_)
  obtain ⟨hP1, hD1⟩ := hB
  rw [ht] at hP1
  obtain ⟨j1, j2⟩ := va_join (wr := wr) hP hD isC isR hC hR hn hdis hk1 hF hP1 hD1
  exact kk u H1 locs1 hw j1 j2 hS1
end CW
def drawersC (g : Nat → ClassId) (a : Nat → Nat) (v : DV) : va_W := [(a 2, .inr (1, [.ref (a 3), .ref (a 4), .ref (a 5), .ref (a 6)])), (a 3, .inl (g 0, 6, .inl (v 3))), (a 4, .inl (g 0, 6, .inl (v 4))), (a 5, .inl (g 0, 6, .inl (v 5))), (a 6, .inl (g 0, 6, .inl (v 6)))]
def lettersC (g : Nat → ClassId) (a : Nat → Nat) (v : DV) : va_W := [(a 7, .inr (3, [.int (v 1 0), .ref (a 8), .ref (a 9), .ref (a 10), .ref (a 11), .ref (a 12), .ref (a 13), .ref (a 14)])), (a 8, .inl (g 0, 30, .inl (v 7))), (a 9, .inl (g 0, 30, .inl (v 8))), (a 10, .inl (g 0, 30, .inl (v 9))), (a 11, .inl (g 0, 30, .inl (v 10))), (a 12, .inl (g 0, 30, .inl (v 11))), (a 13, .inl (g 0, 30, .inl (v 12))), (a 14, .inl (g 0, 30, .inl (v 13)))]
def deskC (g : Nat → ClassId) (a : Nat → Nat) (v : DV) : va_W := [(a 0, .inr (0, [.ref (a 1), .int (v 0 0), .ref (a 2), .ref (a 7)])), (a 1, .inl (g 0, 3, .inl (v 2))), (a 2, .inr (1, [.ref (a 3), .ref (a 4), .ref (a 5), .ref (a 6)])), (a 3, .inl (g 0, 6, .inl (v 3))), (a 4, .inl (g 0, 6, .inl (v 4))), (a 5, .inl (g 0, 6, .inl (v 5))), (a 6, .inl (g 0, 6, .inl (v 6))), (a 7, .inr (3, [.int (v 1 0), .ref (a 8), .ref (a 9), .ref (a 10), .ref (a 11), .ref (a 12), .ref (a 13), .ref (a 14)])), (a 8, .inl (g 0, 30, .inl (v 7))), (a 9, .inl (g 0, 30, .inl (v 8))), (a 10, .inl (g 0, 30, .inl (v 9))), (a 11, .inl (g 0, 30, .inl (v 10))), (a 12, .inl (g 0, 30, .inl (v 11))), (a 13, .inl (g 0, 30, .inl (v 12))), (a 14, .inl (g 0, 30, .inl (v 13)))]
def regC (g : Nat → ClassId) (a : Nat → Nat) (v : DV) : va_W := [(a 15, .inr (5, [.ref (a 16)])), (a 16, .inl (g 0, 30, .inl (v 14))), (a 0, .inr (0, [.ref (a 1), .int (v 0 0), .ref (a 2), .ref (a 7)])), (a 1, .inl (g 0, 3, .inl (v 2))), (a 2, .inr (1, [.ref (a 3), .ref (a 4), .ref (a 5), .ref (a 6)])), (a 3, .inl (g 0, 6, .inl (v 3))), (a 4, .inl (g 0, 6, .inl (v 4))), (a 5, .inl (g 0, 6, .inl (v 5))), (a 6, .inl (g 0, 6, .inl (v 6))), (a 7, .inr (3, [.int (v 1 0), .ref (a 8), .ref (a 9), .ref (a 10), .ref (a 11), .ref (a 12), .ref (a 13), .ref (a 14)])), (a 8, .inl (g 0, 30, .inl (v 7))), (a 9, .inl (g 0, 30, .inl (v 8))), (a 10, .inl (g 0, 30, .inl (v 9))), (a 11, .inl (g 0, 30, .inl (v 10))), (a 12, .inl (g 0, 30, .inl (v 11))), (a 13, .inl (g 0, 30, .inl (v 12))), (a 14, .inl (g 0, 30, .inl (v 13)))]
def padC (g : Nat → ClassId) (a : Nat → Nat) (v : DV) : va_W := [(a 17, .inr (4, [.ref (a 18), .int (v 16 0), .int (v 17 0), .int (v 18 0), .int (v 19 0), .int (v 20 0), .int (v 21 0)])), (a 18, .inl (g 1, 80, .inl (v 15)))]
def modelC (g : Nat → ClassId) (a : Nat → Nat) (v : DV) : va_W := [(a 0, .inr (7, [.ref (a 1), .ref (a 2), .ref (a 3), .int (v 8 0), .ref (a 4), .ref (a 5), .ref (a 6), .int (v 9 0), .ref (a 7), .ref (a 8), .int (v 10 0), .int (v 11 0), .int (v 12 0), .int (v 13 0), .int (v 14 0), .int (v 15 0)])), (a 1, .inl (g 0, 240, .inl (v 0))), (a 2, .inl (g 0, 240, .inl (v 1))), (a 3, .inl (g 0, 1440, .inl (v 2))), (a 4, .inl (g 0, 480, .inl (v 3))), (a 5, .inl (g 2, 2, .inl (v 4))), (a 6, .inl (g 0, 80, .inl (v 5))), (a 7, .inl (g 0, 30, .inl (v 6))), (a 8, .inl (g 0, 30, .inl (v 7)))]
def xcoreC (g : Nat → ClassId) (a : Nat → Nat) (v : DV) : va_W := [(a 21, .inr (6, [.ref (a 0), .ref (a 15), .ref (a 17), .ref (a 19), .ref (a 22)])), (a 15, .inr (5, [.ref (a 16)])), (a 16, .inl (g 0, 30, .inl (v 14))), (a 0, .inr (0, [.ref (a 1), .int (v 0 0), .ref (a 2), .ref (a 7)])), (a 1, .inl (g 0, 3, .inl (v 2))), (a 2, .inr (1, [.ref (a 3), .ref (a 4), .ref (a 5), .ref (a 6)])), (a 3, .inl (g 0, 6, .inl (v 3))), (a 4, .inl (g 0, 6, .inl (v 4))), (a 5, .inl (g 0, 6, .inl (v 5))), (a 6, .inl (g 0, 6, .inl (v 6))), (a 7, .inr (3, [.int (v 1 0), .ref (a 8), .ref (a 9), .ref (a 10), .ref (a 11), .ref (a 12), .ref (a 13), .ref (a 14)])), (a 8, .inl (g 0, 30, .inl (v 7))), (a 9, .inl (g 0, 30, .inl (v 8))), (a 10, .inl (g 0, 30, .inl (v 9))), (a 11, .inl (g 0, 30, .inl (v 10))), (a 12, .inl (g 0, 30, .inl (v 11))), (a 13, .inl (g 0, 30, .inl (v 12))), (a 14, .inl (g 0, 30, .inl (v 13))), (a 17, .inr (4, [.ref (a 18), .int (v 16 0), .int (v 17 0), .int (v 18 0), .int (v 19 0), .int (v 20 0), .int (v 21 0)])), (a 18, .inl (g 1, 80, .inl (v 15))), (a 19, .inr (2, [.ref (a 20), .int (v 22 0)]))]
end
section
/-! New rows of the four kinds, at the classes that the tables name; the copy of a row; worlds in any order. -/
def zeroV : DV := fun _ _ => 0
section NW
variable {p : Program} {l : Launch} {e : Env} {R : Room} {s : State} {m : MethodId} {args : Array Value} {below : List Frame} {meth : Method} {c : Code} {H : Heap} {locs : List Loc} {cells slots : Nat} {Q : State → Prop}
variable {cc : ByteArray} {pc : Nat} {ls : Array Slot} {rest : List Value} {A : Nat → Prop} {G : Gt} {ws : va_W} {n : Int32} {N' : Nat}
theorem nwI (hexec : p.tables.exec = Jvm.exec) (hb : c.code = cc) (harr : (Cond.arrayClass .int).before args s = true) (hK : va_K G.1 vwCl (tyL G.2) s) (hP : va_P G.1 vwCl ws H) (hD : va_D A ws) (hS : va_S A s.heap H locs) (hA : ∀ q : Nat, s.heap.size ≤ q → A q) (hn : ¬ n < 0) (hN : n.toNatClampNeg = N') (hbytes : N' * 4 ≤ 536870912) (hcells : cells + 1 ≤ R.cells) (hslots : slots + N' ≤ R.slots) (hdg : decode cc pc = .ok (.newarray .int, 2))
    (kk : ∀ (q : Nat) (H1 : Heap), va_P G.1 vwCl (ws ++ [(q, .inl (G.2 0, N', .inl (fun _ => 0)))]) H1 → va_D A (ws ++ [(q, .inl (G.2 0, N', .inl (fun _ => 0)))]) → va_S A s.heap H1 locs → W p l e R s m args below meth c H1 locs (cells + 1) (slots + N') Q (F0 m (pc + 2) ls (.ref q :: rest))) : W p l e R s m args below meth c H locs cells slots Q (F0 m pc ls (.int n :: rest)) := by
  refine va_newa (atype := .int) (a0 := (N', .inl (fun _ => 0))) hexec hb harr rfl hK hP hD hS hA (fun _ => rfl) hn hN hbytes hcells hslots hdg (fun q cA H1 hK1 hP1 hD1 hS1 => ?_)
  have h1 := (hK1.2 4 (cA, .int) rfl).2
  have h2 := (hK.2 0 (G.2 0, .int) rfl).2
  have h3 : cA = G.2 0 := Option.some.inj (h1.symm.trans h2)
  subst h3
  exact kk q H1 hP1 hD1 hS1
theorem nwC (hexec : p.tables.exec = Jvm.exec) (hb : c.code = cc) (harr : (Cond.arrayClass .char).before args s = true) (hK : va_K G.1 vwCl (tyL G.2) s) (hP : va_P G.1 vwCl ws H) (hD : va_D A ws) (hS : va_S A s.heap H locs) (hA : ∀ q : Nat, s.heap.size ≤ q → A q) (hn : ¬ n < 0) (hN : n.toNatClampNeg = N') (hbytes : N' * 2 ≤ 536870912) (hcells : cells + 1 ≤ R.cells) (hslots : slots + N' ≤ R.slots) (hdg : decode cc pc = .ok (.newarray .char, 2))
    (kk : ∀ (q : Nat) (H1 : Heap), va_P G.1 vwCl (ws ++ [(q, .inl (G.2 1, N', .inl (fun _ => 0)))]) H1 → va_D A (ws ++ [(q, .inl (G.2 1, N', .inl (fun _ => 0)))]) → va_S A s.heap H1 locs → W p l e R s m args below meth c H1 locs (cells + 1) (slots + N') Q (F0 m (pc + 2) ls (.ref q :: rest))) : W p l e R s m args below meth c H locs cells slots Q (F0 m pc ls (.int n :: rest)) := by
  refine va_newa (atype := .char) (a0 := (N', .inl (fun _ => 0))) hexec hb harr rfl hK hP hD hS hA (fun _ => rfl) hn hN hbytes hcells hslots hdg (fun q cA H1 hK1 hP1 hD1 hS1 => ?_)
  have h1 := (hK1.2 4 (cA, .char) rfl).2
  have h2 := (hK.2 1 (G.2 1, .char) rfl).2
  have h3 : cA = G.2 1 := Option.some.inj (h1.symm.trans h2)
  subst h3
  exact kk q H1 hP1 hD1 hS1
theorem nwZ (hexec : p.tables.exec = Jvm.exec) (hb : c.code = cc) (harr : (Cond.arrayClass .boolean).before args s = true) (hK : va_K G.1 vwCl (tyL G.2) s) (hP : va_P G.1 vwCl ws H) (hD : va_D A ws) (hS : va_S A s.heap H locs) (hA : ∀ q : Nat, s.heap.size ≤ q → A q) (hn : ¬ n < 0) (hN : n.toNatClampNeg = N') (hbytes : N' * 1 ≤ 536870912) (hcells : cells + 1 ≤ R.cells) (hslots : slots + N' ≤ R.slots) (hdg : decode cc pc = .ok (.newarray .boolean, 2))
    (kk : ∀ (q : Nat) (H1 : Heap), va_P G.1 vwCl (ws ++ [(q, .inl (G.2 2, N', .inl (fun _ => 0)))]) H1 → va_D A (ws ++ [(q, .inl (G.2 2, N', .inl (fun _ => 0)))]) → va_S A s.heap H1 locs → W p l e R s m args below meth c H1 locs (cells + 1) (slots + N') Q (F0 m (pc + 2) ls (.ref q :: rest))) : W p l e R s m args below meth c H locs cells slots Q (F0 m pc ls (.int n :: rest)) := by
  refine va_newa (atype := .boolean) (a0 := (N', .inl (fun _ => 0))) hexec hb harr rfl hK hP hD hS hA (fun _ => rfl) hn hN hbytes hcells hslots hdg (fun q cA H1 hK1 hP1 hD1 hS1 => ?_)
  have h1 := (hK1.2 4 (cA, .boolean) rfl).2
  have h2 := (hK.2 2 (G.2 2, .boolean) rfl).2
  have h3 : cA = G.2 2 := Option.some.inj (h1.symm.trans h2)
  subst h3
  exact kk q H1 hP1 hD1 hS1
theorem nwD (hexec : p.tables.exec = Jvm.exec) (hb : c.code = cc) {own : String} {index : Nat} (hown : s.vm.findClass own = some m.cls) (hcl : (Cond.classLink own index RX0).before args s = true) (hover : va_AO RX0 s) (hK : va_K G.1 vwCl (tyL G.2) s) (hP : va_P G.1 vwCl ws H) (hD : va_D A ws) (hS : va_S A s.heap H locs) (hA : ∀ q : Nat, s.heap.size ≤ q → A q) (hn : ¬ n < 0) (hN : n.toNatClampNeg = N') (hbytes : N' * 4 ≤ 536870912) (hcells : cells + 1 ≤ R.cells) (hslots : slots + N' ≤ R.slots) (hdg : decode cc pc = .ok (.anewarray index, 3))
    (kk : ∀ (q : Nat) (H1 : Heap), va_P G.1 vwCl (ws ++ [(q, .inl (G.2 3, N', .inr (.inr (.inr (.inr (fun _ => none))))))]) H1 → va_D A (ws ++ [(q, .inl (G.2 3, N', .inr (.inr (.inr (.inr (fun _ => none))))))]) → va_S A s.heap H1 locs → W p l e R s m args below meth c H1 locs (cells + 1) (slots + N') Q (F0 m (pc + 3) ls (.ref q :: rest))) : W p l e R s m args below meth c H locs cells slots Q (F0 m pc ls (.int n :: rest)) := by
  refine va_newq hexec hb hown hcl hover hK hP hD hS hA hn hN hbytes hcells hslots hdg (fun q cA H1 hK1 hP1 hD1 hS1 => ?_)
  obtain ⟨-, -, -, -, -, h1⟩ := (hK1.2 4 (cA, .object RX0) rfl).2
  obtain ⟨-, -, -, -, -, h2⟩ := (hK.2 3 (G.2 3, .object RX0) rfl).2
  have h3 : cA = G.2 3 := Option.some.inj (h1.symm.trans h2)
  subst h3
  exact kk q H1 hP1 hD1 hS1
end NW
set_option maxHeartbeats 4000000 in
set_option maxRecDepth 100000 in
/-- copy(from, to) of two rows of one length -/
theorem ok_X6_copy (l : Launch) (G : Gt) (p0 q0 n : Nat) (f g : Nat → Int32) (sz : Nat) (hn : n < 2 ^ 20) : Met l yX6_copy wsX6_copy ({ frames := 1, cells := 0, slots := 0, locals := 40 } : Room) (pcW G [.ref p0, .ref q0] [(p0, .inl (G.2 0, n, .inl f)), (q0, .inl (G.2 0, n, .inl g))] sz) (va_Qv (fun _ : Unit => True) (fun _ t => atW G [(p0, .inl (G.2 0, n, .inl f)), (q0, .inl (G.2 0, n, .inl (va_cpy f g 0 0 n)))] (va_A [(p0, .inl (G.2 0, n, .inl f)), (q0, .inl (G.2 0, n, .inl g))] sz) t) (va_A [(p0, .inl (G.2 0, n, .inl f)), (q0, .inl (G.2 0, n, .inl g))] sz)) 0 0 (va_A [(p0, .inl (G.2 0, n, .inl f)), (q0, .inl (G.2 0, n, .inl g))] sz) := by
  refine Met.ofW (cc := cX6_copy) (maxL := 2) (ret := none) (by decide) rfl ?_
  intro p e s m args below meth c s₁ B hml hv
  obtain ⟨rfl, hsz, hP, hD0, hamb⟩ := hv
  have hx := B.exec
  have hb := B.bytes
  have hr := B.returns
  have hts := atoms_spec (ws := wsX6_copy) B.pre
  have hown : s.vm.findClass RX6 = some m.cls := findClass_of_methodNamed B.named
  have hlocks := B.notSynchronized
  have hK := hamb.1
  subst hsz
  have hD := hD0.self (sz := s.heap.size)
  generalize hAe : va_A [(p0, .inl (G.2 0, n, .inl f)), (q0, .inl (G.2 0, n, .inl g))] s.heap.size = A at hD ⊢
  have hA : ∀ q : Nat, s.heap.size ≤ q → A q := fun q h => by rw [← hAe]; exact Or.inr h
  have hS : va_S A s.heap s.heap [] := va_S.rf
  have hl := lv_entry ([.ref p0, .ref q0]) (n := 2) (Nat.le_of_ble_eq_true rfl)
  rw [lg_entry_eq]
  generalize (lg_sl ([.ref p0, .ref q0]) ++ List.replicate (2 - (lg_sl ([.ref p0, .ref q0])).length) Slot.unset).toArray = ls at hl ⊢
  have hl : lv_has ls 2 [(0, .ref p0), (1, .ref q0)] := hl
  refine lv_aload_n hx hb dX6_copy_0 rfl (lv_at hl 0 rfl) ?_
  refine lv_iconst (v := 0) hx hb dX6_copy_1 (by decide) ?_
  refine lv_aload_n hx hb dX6_copy_2 rfl (lv_at hl 1 rfl) ?_
  refine lv_iconst (v := 0) hx hb dX6_copy_3 (by decide) ?_
  refine lv_aload_n hx hb dX6_copy_4 rfl (lv_at hl 0 rfl) ?_
  refine va_alen (v := nI n) hx hb hK hP 0 0 rfl rfl rfl dX6_copy_5 ?_
  refine lv_aload_n hx hb dX6_copy_6 rfl (lv_at hl 1 rfl) ?_
  refine va_alen (v := nI n) hx hb hK hP 1 0 rfl rfl rfl dX6_copy_7 ?_
  refine va_mmin (rest := [.int 0, .ref q0, .int 0, .ref p0]) hx hb (hml.trans hl.1.symm) hown (hts (.methodLink RX6 251 Lib.Math.min.name) (by decide +kernel)) (hts (.static Lib.Math.min.name) (by decide +kernel)) (hts (.initialized "java/lang/Math") (by decide +kernel)) (hts (.code Lib.Math.min.name Lib.Math.min.code 2 (some .int)) (by decide +kernel)) (Nat.le_of_ble_eq_true rfl) (Nat.le_of_ble_eq_true rfl) (Nat.zero_le _) (Nat.zero_le _) dX6_copy_8 ?_
  rw [ite_self]
  have hc : (nI n).toNatClampNeg = n := nI_clamp (by omega)
  have hp : ¬ nI n < 0 := nI_pos (by omega)
  have h0 : (0 : Int32).toNatClampNeg = 0 := rfl
  refine va_copyi hx hb (hml.trans hl.1.symm) hown (hts (.methodLink RX6 256 arraycopyName) (by decide +kernel)) (hts (.native arraycopyName) (by decide +kernel)) (hts (.static arraycopyName) (by decide +kernel)) (hts (.initialized "java/lang/System") (by decide +kernel)) hK hP hD hS 0 1 0 0 rfl rfl rfl rfl rfl (by decide) (by decide) hp (by rw [hc, h0]; omega) (by rw [hc, h0]; omega) (fun _ _ => rfl) (Nat.le_of_ble_eq_true rfl) (Nat.le_of_ble_eq_true rfl) dX6_copy_11 (fun H locs hP hD hS => ?_)
  rw [hc, h0] at hP hD
  exact W.vret hx hb hr (fun t ht hW => ⟨⟨(), rfl, trivial, by rw [ht]; exact hP, hD⟩, hS.F ht⟩) hS.2.2 dX6_copy_14
/-- worlds in another order -/
theorem va_P_perm {D : va_G} {cl : List vw_C} {w1 w2 : va_W} {H : Heap} (h : va_P D cl w1 H) (hp : w1.Perm w2) : va_P D cl w2 H := by
  intro k q hk
  obtain ⟨i, hi⟩ := List.getElem?_of_mem (hp.mem_iff.mpr (List.mem_of_getElem? hk))
  exact h i q hi
theorem va_D_nodup {A : Nat → Prop} {ws : va_W} : va_D A ws ↔ (ws.map Prod.fst).Nodup ∧ ∀ q ∈ ws, A q.1 := by
  constructor
  · intro h
    refine ⟨?_, fun q hq => by obtain ⟨i, hi⟩ := List.getElem?_of_mem hq; exact h.2 i q hi⟩
    rw [List.Nodup, List.pairwise_iff_getElem]
    intro i j hi' hj' hlt hij
    have hi : i < ws.length := by simpa using hi'
    have hj : j < ws.length := by simpa using hj'
    have e : ws[i].1 = ws[j].1 := by simpa using hij
    have := h.1 i j ws[i] ws[j] (List.getElem?_eq_getElem hi) (List.getElem?_eq_getElem hj) e
    omega
  · intro h
    refine ⟨fun i j x y hx hy hxy => ?_, fun k q hk => h.2 q (List.mem_of_getElem? hk)⟩
    have h1 : (ws.map Prod.fst)[i]? = some x.1 := by rw [List.getElem?_map, hx]; rfl
    have h2 : (ws.map Prod.fst)[j]? = some x.1 := by rw [List.getElem?_map, hy, hxy]; rfl
    obtain ⟨hi, e1⟩ := List.getElem?_eq_some_iff.mp h1
    obtain ⟨hj, e2⟩ := List.getElem?_eq_some_iff.mp h2
    exact (List.getElem_inj h.1).mp (e1.trans e2.symm)
theorem va_D_perm {A : Nat → Prop} {w1 w2 : va_W} (h : va_D A w1) (hp : w1.Perm w2) : va_D A w2 := by
  rw [va_D_nodup] at h ⊢
  exact ⟨((hp.map Prod.fst).nodup_iff).mp h.1, fun q hq => h.2 q (hp.mem_iff.mpr hq)⟩
theorem va_P_left {D : va_G} {cl : List vw_C} {w1 w2 : va_W} {H : Heap} (h : va_P D cl (w1 ++ w2) H) : va_P D cl w1 H := by
  intro k q hk
  obtain ⟨i, hi⟩ := List.getElem?_of_mem (List.mem_append_left w2 (List.mem_of_getElem? hk))
  exact h i q hi
theorem va_D_left {A : Nat → Prop} {w1 w2 : va_W} (h : va_D A (w1 ++ w2)) : va_D A w1 := by
  rw [va_D_nodup] at h ⊢
  rw [List.map_append] at h
  exact ⟨(List.nodup_append.mp h.1).1, fun q hq => h.2 q (List.mem_append_left _ hq)⟩
/-- a call over the first part of a world: what came back stands in its place -/
theorem va_joinA {A0 : Nat → Prop} {D : va_G} {cl : List vw_C} {wc wr w1 : va_W} {H H1 : Heap} (hP : va_P D cl (wc ++ wr) H) (hD : va_D A0 (wc ++ wr))
    (hk : ∀ q : Nat, q < H.size → ¬ va_A wc H.size q → H1[q]? = H[q]?) (hF : ∀ q, va_A wc H.size q → A0 q) (hP1 : va_P D cl w1 H1) (hD1 : va_D (va_A wc H.size) w1) : va_P D cl (w1 ++ wr) H1 ∧ va_D A0 (w1 ++ wr) := by
  have hD' := va_D_nodup.mp hD
  have apart : ∀ q ∈ wr, q.1 < H.size ∧ ¬ va_A wc H.size q.1 := by
    intro q hq
    obtain ⟨i, hi⟩ := List.getElem?_of_mem (List.mem_append_right wc hq)
    have hl := (hP i q hi).lt
    refine ⟨hl, fun h => ?_⟩
    rcases h with ⟨k2, e, h⟩ | h
    · have hd := hD'.1
      rw [List.map_append] at hd
      exact (List.nodup_append.mp hd).2.2 q.1 (List.mem_map.mpr ⟨(q.1, e), List.mem_of_getElem? h, rfl⟩) q.1 (List.mem_map.mpr ⟨q, hq, rfl⟩) rfl
    · omega
  refine ⟨va_P.app hP1 (fun k q hq => ?_), va_D_nodup.mpr ⟨?_, ?_⟩⟩
  · obtain ⟨i, hi⟩ := List.getElem?_of_mem (List.mem_append_right wc (List.mem_of_getElem? hq))
    have h := apart q (List.mem_of_getElem? hq)
    exact (hP i q hi).kept (hk q.1 h.1 h.2)
  · have hd := hD'.1
    rw [List.map_append] at hd ⊢
    rw [List.nodup_append]
    refine ⟨(va_D_nodup.mp hD1).1, (List.nodup_append.mp hd).2.1, ?_⟩
    intro x hx y hy hxy
    subst hxy
    obtain ⟨q1, h1, rfl⟩ := List.mem_map.mp hx
    obtain ⟨q2, h2, e2⟩ := List.mem_map.mp hy
    have h3 := (va_D_nodup.mp hD1).2 q1 h1
    exact (apart q2 h2).2 (by rw [e2]; exact h3)
  · intro q hq
    rcases List.mem_append.mp hq with h | h
    · exact hF _ ((va_D_nodup.mp hD1).2 q h)
    · exact hD'.2 q (List.mem_append_right _ h)
theorem va_freeA {A0 : Nat → Prop} {wc wr : va_W} {H0 H : Heap} {locs : List Loc} (hD : va_D A0 (wc ++ wr)) (hS : va_S A0 H0 H locs) (hA : ∀ q, H0.size ≤ q → A0 q) : ∀ q, va_A wc H.size q → A0 q := by
  intro q h
  rcases h with ⟨k, e, h⟩ | h
  · exact (va_D_nodup.mp hD).2 (q, e) (List.mem_append_left _ (List.mem_of_getElem? h))
  · exact hA q (Nat.le_trans hS.1 h)
end
section
def f_X3_isLetter (v0 : DV) (p1 : Int32) : Int32 :=
    (if p1 < 0 then
    0
    else
    (if (v0 1 0) ≤ p1 then
    0
    else
    (if 30 ≤ p1 then
    0
    else
    1)))
def f_X3_ofMood_L5 : Nat → DV → Int32 → Int32 → Int32 → Int32 → Option (Int32)
  | 0, _, _, _, _, _ => none
  | n + 1, v, x1, x2, x3, x4 =>
    (if (v 1 0) ≤ x4 then
    some x3
    else
    ck (ixb x4 30) (
    (if ((v 7) (Int32.toNatClampNeg x4)) = x1 then
    ck (ixb x4 30) (
    (if ((v 11) (Int32.toNatClampNeg x4)) = x2 then
    f_X3_ofMood_L5 n v x1 x2 (x3 + 1) (x4 + 1)
    else
    f_X3_ofMood_L5 n v x1 x2 x3 (x4 + 1)))
    else
    f_X3_ofMood_L5 n v x1 x2 x3 (x4 + 1))))
def f_X3_ofMood (n0 : Nat) (v0 : DV) (p1 : Int32) (p2 : Int32) : Option (Int32) :=
    f_X3_ofMood_L5 n0 v0 p1 p2 0 0
def f_X3_setOf_L5 : Nat → DV → Int32 → Int64 → Int32 → Option (Int64)
  | 0, _, _, _, _ => none
  | n + 1, v, x1, x2, x4 =>
    (if (v 1 0) ≤ x4 then
    some x2
    else
    ck (ixb x4 30) (
    (if ((v 11) (Int32.toNatClampNeg x4)) = x1 then
    f_X3_setOf_L5 n v x1 (x2 ||| (1 <<< (Int32.toInt64 x4 &&& 63))) (x4 + 1)
    else
    f_X3_setOf_L5 n v x1 x2 (x4 + 1))))
def f_X3_setOf (n0 : Nat) (v0 : DV) (p1 : Int32) : Option (Int64) :=
    f_X3_setOf_L5 n0 v0 p1 0 0
def f_X3_lies (v0 : DV) (p1 : Int32) (p2 : Int32) : Option (Int32) :=
    ck (ixb p1 30) (
    (if ((v0 7) (Int32.toNatClampNeg p1)) = p2 then
    ck (ixb p1 30) (
    (if ((v0 11) (Int32.toNatClampNeg p1)) = 0 then
    some 1
    else
    some 0))
    else
    some 0))
def f_X0_today (v0 : DV) : Int32 :=
    ((v0 0 0) / 24)
def f_X1_howManyLocked_L4 : Nat → DV → Int32 → Int32 → Option (Int32)
  | 0, _, _, _ => none
  | n + 1, v, x1, x2 =>
    (if 6 ≤ x2 then
    some x1
    else
    ck (ixb x2 6) (
    f_X1_howManyLocked_L4 n v (x1 + ((v 4) (Int32.toNatClampNeg x2))) (x2 + 1)))
def f_X1_howManyLocked (n0 : Nat) (v0 : DV) : Option (Int32) :=
    f_X1_howManyLocked_L4 n0 v0 0 0
def f_X0_heatNow (v0 : DV) (p1 : Int32) : Option (Int32) :=
    ck (ixb p1 30) (
    (if ((v0 11) (Int32.toNatClampNeg p1)) = 1 then
    ck (ixb p1 30) (
    some ((v0 13) (Int32.toNatClampNeg p1)))
    else
    ck (ixb p1 30) (
    ck (ixb p1 30) (
    some (if 0 < (((v0 8) (Int32.toNatClampNeg p1)) - (((v0 2) (Int32.toNatClampNeg 2)) * ((f_X0_today v0) - ((v0 9) (Int32.toNatClampNeg p1))))) then (((v0 8) (Int32.toNatClampNeg p1)) - (((v0 2) (Int32.toNatClampNeg 2)) * ((f_X0_today v0) - ((v0 9) (Int32.toNatClampNeg p1))))) else 0)))))
def f_X0_writeLetter_J94 (n : Nat) (v : DV) (x1 : Int32) (x2 : Int32) (x3 : Int32) (x4 : Int32) : Option (Int32 × DV) :=
    ck (ixb x4 30) (
    ck (ixb x4 30) (
    ck (ixb x4 30) (
    ck (ixb x4 30) (
    ck (ixb x4 30) (
    ck (ixb x4 30) (
    some (x4, (vs (vs (vs (vs (vs (vs (vs v 7 (upd (v 7) (Int32.toNatClampNeg x4) x1)) 8 (upd (v 8) (Int32.toNatClampNeg x4) x2)) 9 (upd (v 9) (Int32.toNatClampNeg x4) (f_X0_today (vs (vs v 7 (upd (v 7) (Int32.toNatClampNeg x4) x1)) 8 (upd (v 8) (Int32.toNatClampNeg x4) x2))))) 10 (upd (v 10) (Int32.toNatClampNeg x4) x3)) 11 (upd (v 11) (Int32.toNatClampNeg x4) 0)) 12 (upd (v 12) (Int32.toNatClampNeg x4) (-6))) 1 (fun _ => (x4 + 1))))))))))
def f_X0_writeLetter_J26 (n : Nat) (v : DV) (x1 : Int32) (x2 : Int32) (x3 : Int32) : Option (Int32 × DV) :=
    (if x2 < 0 then
    some ((-2), v)
    else
    (if x2 ≤ 99 then
    (if 30 ≤ (v 1 0) then
    some ((-4), v)
    else
    bd1 (f_X3_ofMood n v x1 0) (fun r61 =>
    (if r61 < 8 then
    (if x3 = (-6) then
    f_X0_writeLetter_J94 n v x1 x2 x3 (v 1 0)
    else
    ck (ixb x3 30) (
    (if ((v 11) (Int32.toNatClampNeg x3)) = 1 then
    f_X0_writeLetter_J94 n v x1 x2 x3 (v 1 0)
    else
    some ((-5), v))))
    else
    some ((-4), v))))
    else
    some ((-2), v)))
def f_X0_writeLetter (n0 : Nat) (v0 : DV) (p1 : Int32) (p2 : Int32) (p3 : Int32) : Option (Int32 × DV) :=
    (if (f_X6_isMood p1) = 0 then
    some ((-1), v0)
    else
    (if p3 = (-6) then
    f_X0_writeLetter_J26 n0 v0 p1 p2 p3
    else
    (if (f_X3_isLetter v0 p3) = 0 then
    some ((-1), v0)
    else
    f_X0_writeLetter_J26 n0 v0 p1 p2 p3)))
def f_X0_setThatWouldGo_L13 (k4 : DV → Int64 → Int32 → Option (Int64)) : Nat → DV → Int64 → Int32 → Int32 → Option (Int64)
  | 0, _, _, _, _ => none
  | n + 1, v, x1, x3, x4 =>
    (if (v 1 0) ≤ x4 then
    k4 v x1 (x3 + 1)
    else
    ck (ixb x3 6) (
    (if ((v 4) (Int32.toNatClampNeg x3)) = 0 then
    bd1 (f_X3_lies v x4 x3) (fun r44 =>
    (if r44 = 0 then
    f_X0_setThatWouldGo_L13 k4 n v x1 x3 (x4 + 1)
    else
    bd1 (f_X0_readyDay v x4 x3) (fun r58 =>
    (if (f_X0_today v) < r58 then
    f_X0_setThatWouldGo_L13 k4 n v x1 x3 (x4 + 1)
    else
    f_X0_setThatWouldGo_L13 k4 n v (x1 ||| (1 <<< (Int32.toInt64 x4 &&& 63))) x3 (x4 + 1)))))
    else
    f_X0_setThatWouldGo_L13 k4 n v x1 x3 (x4 + 1))))
def f_X0_setThatWouldGo_L4 : Nat → DV → Int64 → Int32 → Option (Int64)
  | 0, _, _, _ => none
  | n + 1, v, x1, x3 =>
    (if 6 ≤ x3 then
    some x1
    else
    f_X0_setThatWouldGo_L13 (fun v x1 x3 => f_X0_setThatWouldGo_L4 n v x1 x3) n v x1 x3 0)
def f_X0_setThatWouldGo (n0 : Nat) (v0 : DV) : Option (Int64) :=
    f_X0_setThatWouldGo_L4 n0 v0 0 0
def f_X1_turnKeysBy_J25 (k2 : DV → Int32 → Int32 → Option (DV)) (n : Nat) (v : DV) (x1 : Int32) (x2 : Int32) : Option (DV) :=
    ck (ixb x2 6) (
    (if ((v 6) (Int32.toNatClampNeg x2)) = x1 then
    ck (ixb x2 6) (
    k2 (vs v 4 (upd (v 4) (Int32.toNatClampNeg x2) 1)) x1 (x2 + 1))
    else
    k2 v x1 (x2 + 1)))
def f_X1_turnKeysBy_L2 : Nat → DV → Int32 → Int32 → Option (DV)
  | 0, _, _, _ => none
  | n + 1, v, x1, x2 =>
    (if 6 ≤ x2 then
    some v
    else
    ck (ixb x2 6) (
    (if ((v 5) (Int32.toNatClampNeg x2)) = x1 then
    ck (ixb x2 6) (
    f_X1_turnKeysBy_J25 (fun v x1 x2 => f_X1_turnKeysBy_L2 n v x1 x2) n (vs v 4 (upd (v 4) (Int32.toNatClampNeg x2) 0)) x1 x2)
    else
    f_X1_turnKeysBy_J25 (fun v x1 x2 => f_X1_turnKeysBy_L2 n v x1 x2) n v x1 x2)))
def f_X1_turnKeysBy (n0 : Nat) (v0 : DV) (p1 : Int32) : Option (DV) :=
    f_X1_turnKeysBy_L2 n0 v0 p1 0
def f_X0_passHours_L37 : Nat → DV → Int32 → Int32 → Int32 → Option (Int32 × DV)
  | 0, _, _, _, _ => none
  | n + 1, v, x1, x2, x3 =>
    (if x1 ≤ x3 then
    some (x2, v)
    else
    bd1 (f_X1_turnKeysBy n v (f_X0_hourOfDay v)) (fun v50 =>
    (if (f_X0_hourOfDay (mx [3, 4, 5, 6] v v50)) = (((mx [3, 4, 5, 6] v v50) 2) (Int32.toNatClampNeg 0)) then
    bd1 (f_X0_setThatWouldGo n (mx [3, 4, 5, 6] v v50)) (fun r69 =>
    bd2 (f_X0_send n (mx [3, 4, 5, 6] v v50) r69) (fun r72 v72 =>
    f_X0_passHours_L37 n (vs v72 0 (fun _ => ((v72 0 0) + 1))) x1 (x2 + r72) (x3 + 1)))
    else
    f_X0_passHours_L37 n (vs (mx [3, 4, 5, 6] v v50) 0 (fun _ => (((mx [3, 4, 5, 6] v v50) 0 0) + 1))) x1 x2 (x3 + 1))))
def f_X0_passHours (n0 : Nat) (v0 : DV) (p1 : Int32) : Option (Int32 × DV) :=
    (if p1 < 1 then
    some ((-2), v0)
    else
    (if p1 ≤ 240 then
    (if (((v0 0 0) + p1) / 24) ≤ 999 then
    f_X0_passHours_L37 n0 v0 p1 0 0
    else
    some ((-5), v0))
    else
    some ((-2), v0)))
def f_X0_hoursTillSent_L58 : Nat → DV → Int32 → Int32 → Int32 → Int32 → Option (Int32)
  | 0, _, _, _, _, _ => none
  | n + 1, v, x3, x4, x6, x7 =>
    (if 2 ≤ x7 then
    some (-6)
    else
    (if (x6 - (v 0 0)) < x3 then
    bd1 (f_X1_isLockedAt v x4 (v 0 0) x6) (fun r90 =>
    (if r90 = 0 then
    some ((x6 - (v 0 0)) + 1)
    else
    f_X0_hoursTillSent_L58 n v x3 x4 (x6 + 24) (x7 + 1)))
    else
    some (-6)))
def f_X0_hoursTillSent (n0 : Nat) (v0 : DV) (p1 : Int32) (p2 : Int32) (p3 : Int32) : Option (Int32) :=
    ck (ixb p1 30) (
    (if (f_X6_isMood ((v0 7) (Int32.toNatClampNeg p1))) = 0 then
    some (-6)
    else
    bd1 (f_X0_readyDay v0 p1 ((v0 7) (Int32.toNatClampNeg p1))) (fun r30 =>
    bd1 (f_J9_floorMod_7cf53 (p2 - (if (v0 0 0) < (r30 * 24) then (r30 * 24) else (v0 0 0))) 24) (fun r49 =>
    f_X0_hoursTillSent_L58 n0 v0 p3 ((v0 7) (Int32.toNatClampNeg p1)) ((if (v0 0 0) < (r30 * 24) then (r30 * 24) else (v0 0 0)) + r49) 0))))
set_option maxHeartbeats 4000000 in
set_option maxRecDepth 100000 in
theorem ok_X3_isLetter (l : Launch) (G : Gt) (a : Nat → Nat) (v0 : DV) (p1 : Int32) : Met l yX3_isLetter wsX3_isLetter ({ frames := 0, cells := 0, slots := 0, locals := 0 } : Room) (pcR G [.ref (a 7), .int p1] (lettersC G.2 a v0)) (vp_Si (fun r => r = f_X3_isLetter v0 p1)) 0 0 (fun _ => False) := by
  refine Met.ofW (cc := cX3_isLetter) (maxL := 2) (ret := (some .boolean)) (by decide) rfl ?_
  intro p e s m args below meth c s₁ B hml hv
  obtain ⟨rfl, hP, hamb⟩ := hv
  have hx := B.exec
  have hb := B.bytes
  have hr := B.returns
  have hts := atoms_spec (ws := wsX3_isLetter) B.pre
  have hown : s.vm.findClass RX3 = some m.cls := findClass_of_methodNamed B.named
  have hlocks := B.notSynchronized
  have hK := hamb.1
  obtain ⟨res, hf0⟩ : ∃ res, f_X3_isLetter v0 p1 = res := ⟨_, rfl⟩
  have hf := hf0
  rw [f_X3_isLetter] at hf
  have hinX3 : ∀ w ∈ u_ws RX3 TX3 8, w ∈ wsX3_isLetter := by decide +kernel
  have lk33 := hts (.fieldLink RX3 33 "MoodDrawers$Letters" "written" "I") (by decide +kernel)
  have hl := lv_entry ([.ref (a 7), .int p1]) (n := 2) (Nat.le_of_ble_eq_true rfl)
  rw [lg_entry_eq]
  generalize (lg_sl ([.ref (a 7), .int p1]) ++ List.replicate (2 - (lg_sl ([.ref (a 7), .int p1])).length) Slot.unset).toArray = ls at hl ⊢
  have hl : lv_has ls 2 [(0, .ref (a 7)), (1, .int p1)] := hl
  refine lv_iload_n hx hb dX3_isLetter_0 rfl (lv_at hl 1 rfl) ?_
  refine lv_if_lt (tgt := 22) hx hb dX3_isLetter_1 (by decide) (fun c => ?_) (fun c => ?_)
  · have hf := it_1 hf c
    refine lv_iconst (v := 0) hx hb dX3_isLetter_22 (by decide) ?_
    exact W.zret (ty := .boolean) (v := 0) hx hb hr rfl (fun t ht hW => ⟨0, rfl, hf.trans hf0.symm, ht⟩) (fun _ hq => absurd hq List.not_mem_nil) dX3_isLetter_23
  · have hf := it_2 hf c
    refine lv_iload_n hx hb dX3_isLetter_4 rfl (lv_at hl 1 rfl) ?_
    refine lv_aload_n hx hb dX3_isLetter_5 rfl (lv_at hl 0 rfl) ?_
    refine va_get (D := G.1) (ci := 3) (v := .int (v0 1 0)) (C := RX3) (T := TX3) (N := 8) hx hb hts hinX3 hown hK hP 0 rfl rfl 0 (by decide) lk33 (fun _ h9 => h9) rfl dX3_isLetter_6 ?_
    refine lv_icmp_ge (tgt := 22) hx hb dX3_isLetter_9 (by decide) (fun c => ?_) (fun c => ?_)
    · have hf := it_1 hf c
      refine lv_iconst (v := 0) hx hb dX3_isLetter_22 (by decide) ?_
      exact W.zret (ty := .boolean) (v := 0) hx hb hr rfl (fun t ht hW => ⟨0, rfl, hf.trans hf0.symm, ht⟩) (fun _ hq => absurd hq List.not_mem_nil) dX3_isLetter_23
    · have hf := it_2 hf c
      refine lv_iload_n hx hb dX3_isLetter_12 rfl (lv_at hl 1 rfl) ?_
      refine lv_bipush (v := 30) hx hb dX3_isLetter_13 (by decide) ?_
      refine lv_icmp_ge (tgt := 22) hx hb dX3_isLetter_15 (by decide) (fun c => ?_) (fun c => ?_)
      · have hf := it_1 hf c
        refine lv_iconst (v := 0) hx hb dX3_isLetter_22 (by decide) ?_
        exact W.zret (ty := .boolean) (v := 0) hx hb hr rfl (fun t ht hW => ⟨0, rfl, hf.trans hf0.symm, ht⟩) (fun _ hq => absurd hq List.not_mem_nil) dX3_isLetter_23
      · have hf := it_2 hf c
        refine lv_iconst (v := 1) hx hb dX3_isLetter_18 (by decide) ?_
        refine lv_goto (tgt := 23) hx hb dX3_isLetter_19 (by decide) ?_
        exact W.zret (ty := .boolean) (v := 1) hx hb hr rfl (fun t ht hW => ⟨1, rfl, hf.trans hf0.symm, ht⟩) (fun _ hq => absurd hq List.not_mem_nil) dX3_isLetter_23
set_option maxHeartbeats 4000000 in
set_option maxRecDepth 100000 in
theorem ok_X3_ofMood (l : Launch) (G : Gt) (a : Nat → Nat) (n0 : Nat) (v0 : DV) (p1 : Int32) (p2 : Int32) (hne : f_X3_ofMood n0 v0 p1 p2 ≠ none) : Met l yX3_ofMood wsX3_ofMood ({ frames := 0, cells := 0, slots := 0, locals := 0 } : Room) (pcR G [.ref (a 7), .int p1, .int p2] (lettersC G.2 a v0)) (vp_Si (fun r => f_X3_ofMood n0 v0 p1 p2 = some r)) 0 0 (fun _ => False) := by
  refine Met.ofW (cc := cX3_ofMood) (maxL := 5) (ret := (some .int)) (by decide) rfl ?_
  intro p e s m args below meth c s₁ B hml hv
  obtain ⟨rfl, hP, hamb⟩ := hv
  have hx := B.exec
  have hb := B.bytes
  have hr := B.returns
  have hts := atoms_spec (ws := wsX3_ofMood) B.pre
  have hown : s.vm.findClass RX3 = some m.cls := findClass_of_methodNamed B.named
  have hlocks := B.notSynchronized
  have hK := hamb.1
  obtain ⟨res, hf0⟩ : ∃ res, f_X3_ofMood n0 v0 p1 p2 = res := ⟨_, rfl⟩
  have hne : res ≠ none := hf0 ▸ hne
  have hf := hf0
  rw [f_X3_ofMood] at hf
  have hinX3 : ∀ w ∈ u_ws RX3 TX3 8, w ∈ wsX3_ofMood := by decide +kernel
  have lk33 := hts (.fieldLink RX3 33 "MoodDrawers$Letters" "written" "I") (by decide +kernel)
  have lk9 := hts (.fieldLink RX3 9 "MoodDrawers$Letters" "mood" "[I") (by decide +kernel)
  have lk24 := hts (.fieldLink RX3 24 "MoodDrawers$Letters" "how" "[I") (by decide +kernel)
  have hl := lv_entry ([.ref (a 7), .int p1, .int p2]) (n := 5) (Nat.le_of_ble_eq_true rfl)
  rw [lg_entry_eq]
  generalize (lg_sl ([.ref (a 7), .int p1, .int p2]) ++ List.replicate (5 - (lg_sl ([.ref (a 7), .int p1, .int p2])).length) Slot.unset).toArray = ls at hl ⊢
  have hl : lv_has ls 5 [(0, .ref (a 7)), (1, .int p1), (2, .int p2)] := hl
  have L5 : ∀ (n : Nat) (v : DV) (x1 : Int32) (x2 : Int32) (x3 : Int32) (x4 : Int32) (ls : Array Slot), va_P G.1 vwCl (lettersC G.2 a v) s.heap → lv_has ls 5 [(0, .ref (a 7)), (1, .int x1), (2, .int x2), (3, .int x3), (4, .int x4)] → f_X3_ofMood_L5 n v x1 x2 x3 x4 = res → W p l e (headSpec wsX3_ofMood ({ frames := 0, cells := 0, slots := 0, locals := 0 } : Room)).room s m ([.ref (a 7), .int p1, .int p2] : List Value).toArray below meth c s.heap [] 0 0 (MQ below (vp_Si (fun r => f_X3_ofMood n0 v0 p1 p2 = some r)) ([.ref (a 7), .int p1, .int p2] : List Value).toArray s 0 0 (fun _ => False)) (F0 m 5 ls []) := by
    intro n
    induction n with
    | zero => intro v x1 x2 x3 x4 ls hP hl hf; exact (none_1 hf hne).elim
    | succ n ih =>
      intro v x1 x2 x3 x4 ls hP hl hf
      rw [f_X3_ofMood_L5] at hf
      refine lv_iload hx hb dX3_ofMood_5 (lv_at hl 4 rfl) ?_
      refine lv_aload_n hx hb dX3_ofMood_7 rfl (lv_at hl 0 rfl) ?_
      refine va_get (D := G.1) (ci := 3) (v := .int (v 1 0)) (C := RX3) (T := TX3) (N := 8) hx hb hts hinX3 hown hK hP 0 rfl rfl 0 (by decide) lk33 (fun _ h9 => h9) rfl dX3_ofMood_8 ?_
      refine lv_icmp_ge (tgt := 45) hx hb dX3_ofMood_11 (by decide) (fun c => ?_) (fun c => ?_)
      · have hf := it_1 hf c
        refine lv_iload_n hx hb dX3_ofMood_45 rfl (lv_at hl 3 rfl) ?_
        exact W.iret (v := x3) hx hb hr (fun t ht hW => ⟨x3, rfl, hf0.trans hf.symm, ht⟩) (fun _ hq => absurd hq List.not_mem_nil) dX3_ofMood_46
      · have hf := it_2 hf c
        refine lv_aload_n hx hb dX3_ofMood_14 rfl (lv_at hl 0 rfl) ?_
        refine va_get (D := G.1) (ci := 3) (v := .ref (a 8)) (C := RX3) (T := TX3) (N := 8) hx hb hts hinX3 hown hK hP 0 rfl rfl 1 (by decide) lk9 (fun _ h9 => h9) rfl dX3_ofMood_15 ?_
        refine lv_iload hx hb dX3_ofMood_18 (lv_at hl 4 rfl) ?_
        obtain ⟨hi, hf⟩ := ck_1 hf hne
        refine va_iald (f := (v 7)) hx hb hK hP 1 0 rfl rfl (ixb_1 hi) dX3_ofMood_20 ?_
        refine lv_iload_n hx hb dX3_ofMood_21 rfl (lv_at hl 1 rfl) ?_
        refine lv_icmp_ne (tgt := 39) hx hb dX3_ofMood_22 (by decide) (fun c => ?_) (fun c => ?_)
        · have hf := it_2 hf c
          refine lv_iinc (v := (x4 + 1)) (lv' := [(4, .int (x4 + 1)), (0, .ref (a 7)), (1, .int x1), (2, .int x2), (3, .int x3)]) hx hb dX3_ofMood_39 hl (k := 4) rfl rfl (by decide) rfl (fun ls hl => ?_)
          refine lv_goto (tgt := 5) hx hb dX3_ofMood_42 (by decide) ?_
          exact ih v x1 x2 x3 (x4 + 1) ls hP (lv_sub hl [1, 2, 3, 4, 0] rfl) hf
        · have hf := it_1 hf c
          refine lv_aload_n hx hb dX3_ofMood_25 rfl (lv_at hl 0 rfl) ?_
          refine va_get (D := G.1) (ci := 3) (v := .ref (a 12)) (C := RX3) (T := TX3) (N := 8) hx hb hts hinX3 hown hK hP 0 rfl rfl 5 (by decide) lk24 (fun _ h9 => h9) rfl dX3_ofMood_26 ?_
          refine lv_iload hx hb dX3_ofMood_29 (lv_at hl 4 rfl) ?_
          obtain ⟨hi, hf⟩ := ck_1 hf hne
          refine va_iald (f := (v 11)) hx hb hK hP 5 0 rfl rfl (ixb_1 hi) dX3_ofMood_31 ?_
          refine lv_iload_n hx hb dX3_ofMood_32 rfl (lv_at hl 2 rfl) ?_
          refine lv_icmp_ne (tgt := 39) hx hb dX3_ofMood_33 (by decide) (fun c => ?_) (fun c => ?_)
          · have hf := it_2 hf c
            refine lv_iinc (v := (x4 + 1)) (lv' := [(4, .int (x4 + 1)), (0, .ref (a 7)), (1, .int x1), (2, .int x2), (3, .int x3)]) hx hb dX3_ofMood_39 hl (k := 4) rfl rfl (by decide) rfl (fun ls hl => ?_)
            refine lv_goto (tgt := 5) hx hb dX3_ofMood_42 (by decide) ?_
            exact ih v x1 x2 x3 (x4 + 1) ls hP (lv_sub hl [1, 2, 3, 4, 0] rfl) hf
          · have hf := it_1 hf c
            refine lv_iinc (v := (x3 + 1)) (lv' := [(3, .int (x3 + 1)), (0, .ref (a 7)), (1, .int x1), (2, .int x2), (4, .int x4)]) hx hb dX3_ofMood_36 hl (k := 3) rfl rfl (by decide) rfl (fun ls hl => ?_)
            refine lv_iinc (v := (x4 + 1)) (lv' := [(4, .int (x4 + 1)), (3, .int (x3 + 1)), (0, .ref (a 7)), (1, .int x1), (2, .int x2)]) hx hb dX3_ofMood_39 hl (k := 4) rfl rfl (by decide) rfl (fun ls hl => ?_)
            refine lv_goto (tgt := 5) hx hb dX3_ofMood_42 (by decide) ?_
            exact ih v x1 x2 (x3 + 1) (x4 + 1) ls hP (lv_sub hl [2, 3, 4, 1, 0] rfl) hf
  refine lv_iconst (v := 0) hx hb dX3_ofMood_0 (by decide) ?_
  refine lv_istore_n (lv' := [(3, .int 0), (0, .ref (a 7)), (1, .int p1), (2, .int p2)]) hx hb dX3_ofMood_1 rfl hl (by decide) rfl (fun ls hl => ?_)
  refine lv_iconst (v := 0) hx hb dX3_ofMood_2 (by decide) ?_
  refine lv_istore (lv' := [(4, .int 0), (3, .int 0), (0, .ref (a 7)), (1, .int p1), (2, .int p2)]) hx hb dX3_ofMood_3 hl (by decide) rfl (fun ls hl => ?_)
  exact L5 n0 v0 p1 p2 0 0 ls hP (lv_sub hl [2, 3, 4, 1, 0] rfl) hf
set_option maxHeartbeats 4000000 in
set_option maxRecDepth 100000 in
theorem ok_X3_setOf (l : Launch) (G : Gt) (a : Nat → Nat) (n0 : Nat) (v0 : DV) (p1 : Int32) (hne : f_X3_setOf n0 v0 p1 ≠ none) : Met l yX3_setOf wsX3_setOf ({ frames := 0, cells := 0, slots := 0, locals := 0 } : Room) (pcR G [.ref (a 7), .int p1] (lettersC G.2 a v0)) (vp_Sl (fun r => f_X3_setOf n0 v0 p1 = some r)) 0 0 (fun _ => False) := by
  refine Met.ofW (cc := cX3_setOf) (maxL := 5) (ret := (some .long)) (by decide) rfl ?_
  intro p e s m args below meth c s₁ B hml hv
  obtain ⟨rfl, hP, hamb⟩ := hv
  have hx := B.exec
  have hb := B.bytes
  have hr := B.returns
  have hts := atoms_spec (ws := wsX3_setOf) B.pre
  have hown : s.vm.findClass RX3 = some m.cls := findClass_of_methodNamed B.named
  have hlocks := B.notSynchronized
  have hK := hamb.1
  obtain ⟨res, hf0⟩ : ∃ res, f_X3_setOf n0 v0 p1 = res := ⟨_, rfl⟩
  have hne : res ≠ none := hf0 ▸ hne
  have hf := hf0
  rw [f_X3_setOf] at hf
  have hinX3 : ∀ w ∈ u_ws RX3 TX3 8, w ∈ wsX3_setOf := by decide +kernel
  have lk33 := hts (.fieldLink RX3 33 "MoodDrawers$Letters" "written" "I") (by decide +kernel)
  have lk24 := hts (.fieldLink RX3 24 "MoodDrawers$Letters" "how" "[I") (by decide +kernel)
  have hl := lv_entry ([.ref (a 7), .int p1]) (n := 5) (Nat.le_of_ble_eq_true rfl)
  rw [lg_entry_eq]
  generalize (lg_sl ([.ref (a 7), .int p1]) ++ List.replicate (5 - (lg_sl ([.ref (a 7), .int p1])).length) Slot.unset).toArray = ls at hl ⊢
  have hl : lv_has ls 5 [(0, .ref (a 7)), (1, .int p1)] := hl
  have L5 : ∀ (n : Nat) (v : DV) (x1 : Int32) (x2 : Int64) (x4 : Int32) (ls : Array Slot), va_P G.1 vwCl (lettersC G.2 a v) s.heap → lv_has ls 5 [(0, .ref (a 7)), (1, .int x1), (2, .long x2), (4, .int x4)] → f_X3_setOf_L5 n v x1 x2 x4 = res → W p l e (headSpec wsX3_setOf ({ frames := 0, cells := 0, slots := 0, locals := 0 } : Room)).room s m ([.ref (a 7), .int p1] : List Value).toArray below meth c s.heap [] 0 0 (MQ below (vp_Sl (fun r => f_X3_setOf n0 v0 p1 = some r)) ([.ref (a 7), .int p1] : List Value).toArray s 0 0 (fun _ => False)) (F0 m 5 ls []) := by
    intro n
    induction n with
    | zero => intro v x1 x2 x4 ls hP hl hf; exact (none_1 hf hne).elim
    | succ n ih =>
      intro v x1 x2 x4 ls hP hl hf
      rw [f_X3_setOf_L5] at hf
      refine lv_iload hx hb dX3_setOf_5 (lv_at hl 3 rfl) ?_
      refine lv_aload_n hx hb dX3_setOf_7 rfl (lv_at hl 0 rfl) ?_
      refine va_get (D := G.1) (ci := 3) (v := .int (v 1 0)) (C := RX3) (T := TX3) (N := 8) hx hb hts hinX3 hown hK hP 0 rfl rfl 0 (by decide) lk33 (fun _ h9 => h9) rfl dX3_setOf_8 ?_
      refine lv_icmp_ge (tgt := 38) hx hb dX3_setOf_11 (by decide) (fun c => ?_) (fun c => ?_)
      · have hf := it_1 hf c
        refine lv_lload_n hx hb dX3_setOf_38 rfl (lv_at hl 2 rfl) ?_
        exact W.lret (v := x2) hx hb hr (fun t ht hW => ⟨x2, rfl, hf0.trans hf.symm, ht⟩) (fun _ hq => absurd hq List.not_mem_nil) dX3_setOf_39
      · have hf := it_2 hf c
        refine lv_aload_n hx hb dX3_setOf_14 rfl (lv_at hl 0 rfl) ?_
        refine va_get (D := G.1) (ci := 3) (v := .ref (a 12)) (C := RX3) (T := TX3) (N := 8) hx hb hts hinX3 hown hK hP 0 rfl rfl 5 (by decide) lk24 (fun _ h9 => h9) rfl dX3_setOf_15 ?_
        refine lv_iload hx hb dX3_setOf_18 (lv_at hl 3 rfl) ?_
        obtain ⟨hi, hf⟩ := ck_1 hf hne
        refine va_iald (f := (v 11)) hx hb hK hP 5 0 rfl rfl (ixb_1 hi) dX3_setOf_20 ?_
        refine lv_iload_n hx hb dX3_setOf_21 rfl (lv_at hl 1 rfl) ?_
        refine lv_icmp_ne (tgt := 32) hx hb dX3_setOf_22 (by decide) (fun c => ?_) (fun c => ?_)
        · have hf := it_2 hf c
          refine lv_iinc (v := (x4 + 1)) (lv' := [(4, .int (x4 + 1)), (0, .ref (a 7)), (1, .int x1), (2, .long x2)]) hx hb dX3_setOf_32 hl (k := 3) rfl rfl (by decide) rfl (fun ls hl => ?_)
          refine lv_goto (tgt := 5) hx hb dX3_setOf_35 (by decide) ?_
          exact ih v x1 x2 (x4 + 1) ls hP (lv_sub hl [1, 2, 3, 0] rfl) hf
        · have hf := it_1 hf c
          refine lv_lload_n hx hb dX3_setOf_25 rfl (lv_at hl 2 rfl) ?_
          refine lv_lconst (v := 1) hx hb dX3_setOf_26 (by decide) ?_
          refine lv_iload hx hb dX3_setOf_27 (lv_at hl 3 rfl) ?_
          refine lv_lshl hx hb dX3_setOf_29 rfl ?_
          refine lv_lor hx hb dX3_setOf_30 ?_
          refine lv_lstore_n (lv' := [(2, .long (x2 ||| (1 <<< (Int32.toInt64 x4 &&& 63)))), (0, .ref (a 7)), (1, .int x1), (4, .int x4)]) hx hb dX3_setOf_31 rfl hl (by decide) rfl (fun ls hl => ?_)
          refine lv_iinc (v := (x4 + 1)) (lv' := [(4, .int (x4 + 1)), (2, .long (x2 ||| (1 <<< (Int32.toInt64 x4 &&& 63)))), (0, .ref (a 7)), (1, .int x1)]) hx hb dX3_setOf_32 hl (k := 3) rfl rfl (by decide) rfl (fun ls hl => ?_)
          refine lv_goto (tgt := 5) hx hb dX3_setOf_35 (by decide) ?_
          exact ih v x1 (x2 ||| (1 <<< (Int32.toInt64 x4 &&& 63))) (x4 + 1) ls hP (lv_sub hl [2, 3, 1, 0] rfl) hf
  refine lv_lconst (v := 0) hx hb dX3_setOf_0 (by decide) ?_
  refine lv_lstore_n (lv' := [(2, .long 0), (0, .ref (a 7)), (1, .int p1)]) hx hb dX3_setOf_1 rfl hl (by decide) rfl (fun ls hl => ?_)
  refine lv_iconst (v := 0) hx hb dX3_setOf_2 (by decide) ?_
  refine lv_istore (lv' := [(4, .int 0), (2, .long 0), (0, .ref (a 7)), (1, .int p1)]) hx hb dX3_setOf_3 hl (by decide) rfl (fun ls hl => ?_)
  exact L5 n0 v0 p1 0 0 ls hP (lv_sub hl [2, 3, 1, 0] rfl) hf
set_option maxHeartbeats 4000000 in
set_option maxRecDepth 100000 in
theorem ok_X3_lies (l : Launch) (G : Gt) (a : Nat → Nat) (v0 : DV) (p1 : Int32) (p2 : Int32) (hne : f_X3_lies v0 p1 p2 ≠ none) : Met l yX3_lies wsX3_lies ({ frames := 0, cells := 0, slots := 0, locals := 0 } : Room) (pcR G [.ref (a 7), .int p1, .int p2] (lettersC G.2 a v0)) (vp_Si (fun r => f_X3_lies v0 p1 p2 = some r)) 0 0 (fun _ => False) := by
  refine Met.ofW (cc := cX3_lies) (maxL := 3) (ret := (some .boolean)) (by decide) rfl ?_
  intro p e s m args below meth c s₁ B hml hv
  obtain ⟨rfl, hP, hamb⟩ := hv
  have hx := B.exec
  have hb := B.bytes
  have hr := B.returns
  have hts := atoms_spec (ws := wsX3_lies) B.pre
  have hown : s.vm.findClass RX3 = some m.cls := findClass_of_methodNamed B.named
  have hlocks := B.notSynchronized
  have hK := hamb.1
  obtain ⟨res, hf0⟩ : ∃ res, f_X3_lies v0 p1 p2 = res := ⟨_, rfl⟩
  have hne : res ≠ none := hf0 ▸ hne
  have hf := hf0
  rw [f_X3_lies] at hf
  have hinX3 : ∀ w ∈ u_ws RX3 TX3 8, w ∈ wsX3_lies := by decide +kernel
  have lk9 := hts (.fieldLink RX3 9 "MoodDrawers$Letters" "mood" "[I") (by decide +kernel)
  have lk24 := hts (.fieldLink RX3 24 "MoodDrawers$Letters" "how" "[I") (by decide +kernel)
  have hl := lv_entry ([.ref (a 7), .int p1, .int p2]) (n := 3) (Nat.le_of_ble_eq_true rfl)
  rw [lg_entry_eq]
  generalize (lg_sl ([.ref (a 7), .int p1, .int p2]) ++ List.replicate (3 - (lg_sl ([.ref (a 7), .int p1, .int p2])).length) Slot.unset).toArray = ls at hl ⊢
  have hl : lv_has ls 3 [(0, .ref (a 7)), (1, .int p1), (2, .int p2)] := hl
  refine lv_aload_n hx hb dX3_lies_0 rfl (lv_at hl 0 rfl) ?_
  refine va_get (D := G.1) (ci := 3) (v := .ref (a 8)) (C := RX3) (T := TX3) (N := 8) hx hb hts hinX3 hown hK hP 0 rfl rfl 1 (by decide) lk9 (fun _ h9 => h9) rfl dX3_lies_1 ?_
  refine lv_iload_n hx hb dX3_lies_4 rfl (lv_at hl 1 rfl) ?_
  obtain ⟨hi, hf⟩ := ck_1 hf hne
  refine va_iald (f := (v0 7)) hx hb hK hP 1 0 rfl rfl (ixb_1 hi) dX3_lies_5 ?_
  refine lv_iload_n hx hb dX3_lies_6 rfl (lv_at hl 2 rfl) ?_
  refine lv_icmp_ne (tgt := 23) hx hb dX3_lies_7 (by decide) (fun c => ?_) (fun c => ?_)
  · have hf := it_2 hf c
    refine lv_iconst (v := 0) hx hb dX3_lies_23 (by decide) ?_
    exact W.zret (ty := .boolean) (v := 0) hx hb hr rfl (fun t ht hW => ⟨0, rfl, hf0.trans hf.symm, ht⟩) (fun _ hq => absurd hq List.not_mem_nil) dX3_lies_24
  · have hf := it_1 hf c
    refine lv_aload_n hx hb dX3_lies_10 rfl (lv_at hl 0 rfl) ?_
    refine va_get (D := G.1) (ci := 3) (v := .ref (a 12)) (C := RX3) (T := TX3) (N := 8) hx hb hts hinX3 hown hK hP 0 rfl rfl 5 (by decide) lk24 (fun _ h9 => h9) rfl dX3_lies_11 ?_
    refine lv_iload_n hx hb dX3_lies_14 rfl (lv_at hl 1 rfl) ?_
    obtain ⟨hi, hf⟩ := ck_1 hf hne
    refine va_iald (f := (v0 11)) hx hb hK hP 5 0 rfl rfl (ixb_1 hi) dX3_lies_15 ?_
    refine lv_if_ne (tgt := 23) hx hb dX3_lies_16 (by decide) (fun c => ?_) (fun c => ?_)
    · have hf := it_2 hf c
      refine lv_iconst (v := 0) hx hb dX3_lies_23 (by decide) ?_
      exact W.zret (ty := .boolean) (v := 0) hx hb hr rfl (fun t ht hW => ⟨0, rfl, hf0.trans hf.symm, ht⟩) (fun _ hq => absurd hq List.not_mem_nil) dX3_lies_24
    · have hf := it_1 hf c
      refine lv_iconst (v := 1) hx hb dX3_lies_19 (by decide) ?_
      refine lv_goto (tgt := 24) hx hb dX3_lies_20 (by decide) ?_
      exact W.zret (ty := .boolean) (v := 1) hx hb hr rfl (fun t ht hW => ⟨1, rfl, hf0.trans hf.symm, ht⟩) (fun _ hq => absurd hq List.not_mem_nil) dX3_lies_24
set_option maxHeartbeats 4000000 in
set_option maxRecDepth 100000 in
theorem ok_X0_today (l : Launch) (G : Gt) (a : Nat → Nat) (v0 : DV) : Met l yX0_today wsX0_today ({ frames := 0, cells := 0, slots := 0, locals := 0 } : Room) (pcR G [.ref (a 0)] (deskC G.2 a v0)) (vp_Si (fun r => r = f_X0_today v0)) 0 0 (fun _ => False) := by
  refine Met.ofW (cc := cX0_today) (maxL := 1) (ret := (some .int)) (by decide) rfl ?_
  intro p e s m args below meth c s₁ B hml hv
  obtain ⟨rfl, hP, hamb⟩ := hv
  have hx := B.exec
  have hb := B.bytes
  have hr := B.returns
  have hts := atoms_spec (ws := wsX0_today) B.pre
  have hown : s.vm.findClass RX0 = some m.cls := findClass_of_methodNamed B.named
  have hlocks := B.notSynchronized
  have hK := hamb.1
  obtain ⟨res, hf0⟩ : ∃ res, f_X0_today v0 = res := ⟨_, rfl⟩
  have hf := hf0
  rw [f_X0_today] at hf
  have hinX0 : ∀ w ∈ u_ws RX0 TX0 4, w ∈ wsX0_today := by decide +kernel
  have lk33 := hts (.fieldLink RX0 33 "MoodDrawers$Desk" "now" "I") (by decide +kernel)
  have hl := lv_entry ([.ref (a 0)]) (n := 1) (Nat.le_of_ble_eq_true rfl)
  rw [lg_entry_eq]
  generalize (lg_sl ([.ref (a 0)]) ++ List.replicate (1 - (lg_sl ([.ref (a 0)])).length) Slot.unset).toArray = ls at hl ⊢
  have hl : lv_has ls 1 [(0, .ref (a 0))] := hl
  refine lv_aload_n hx hb dX0_today_0 rfl (lv_at hl 0 rfl) ?_
  refine va_get (D := G.1) (ci := 0) (v := .int (v0 0 0)) (C := RX0) (T := TX0) (N := 4) hx hb hts hinX0 hown hK hP 0 rfl rfl 1 (by decide) lk33 (fun _ h9 => h9) rfl dX0_today_1 ?_
  refine lv_bipush (v := 24) hx hb dX0_today_4 (by decide) ?_
  refine lv_idiv hx hb dX0_today_6 (by decide) ?_
  exact W.iret (v := ((v0 0 0) / 24)) hx hb hr (fun t ht hW => ⟨((v0 0 0) / 24), rfl, hf.trans hf0.symm, ht⟩) (fun _ hq => absurd hq List.not_mem_nil) dX0_today_7
set_option maxHeartbeats 4000000 in
set_option maxRecDepth 100000 in
theorem ok_X1_howManyLocked (l : Launch) (G : Gt) (a : Nat → Nat) (n0 : Nat) (v0 : DV) (hne : f_X1_howManyLocked n0 v0 ≠ none) : Met l yX1_howManyLocked wsX1_howManyLocked ({ frames := 0, cells := 0, slots := 0, locals := 0 } : Room) (pcR G [.ref (a 2)] (drawersC G.2 a v0)) (vp_Si (fun r => f_X1_howManyLocked n0 v0 = some r)) 0 0 (fun _ => False) := by
  refine Met.ofW (cc := cX1_howManyLocked) (maxL := 3) (ret := (some .int)) (by decide) rfl ?_
  intro p e s m args below meth c s₁ B hml hv
  obtain ⟨rfl, hP, hamb⟩ := hv
  have hx := B.exec
  have hb := B.bytes
  have hr := B.returns
  have hts := atoms_spec (ws := wsX1_howManyLocked) B.pre
  have hown : s.vm.findClass RX1 = some m.cls := findClass_of_methodNamed B.named
  have hlocks := B.notSynchronized
  have hK := hamb.1
  obtain ⟨res, hf0⟩ : ∃ res, f_X1_howManyLocked n0 v0 = res := ⟨_, rfl⟩
  have hne : res ≠ none := hf0 ▸ hne
  have hf := hf0
  rw [f_X1_howManyLocked] at hf
  have hinX1 : ∀ w ∈ u_ws RX1 TX1 4, w ∈ wsX1_howManyLocked := by decide +kernel
  have lk15 := hts (.fieldLink RX1 15 "MoodDrawers$Drawers" "locked" "[I") (by decide +kernel)
  have hl := lv_entry ([.ref (a 2)]) (n := 3) (Nat.le_of_ble_eq_true rfl)
  rw [lg_entry_eq]
  generalize (lg_sl ([.ref (a 2)]) ++ List.replicate (3 - (lg_sl ([.ref (a 2)])).length) Slot.unset).toArray = ls at hl ⊢
  have hl : lv_has ls 3 [(0, .ref (a 2))] := hl
  have L4 : ∀ (n : Nat) (v : DV) (x1 : Int32) (x2 : Int32) (ls : Array Slot), va_P G.1 vwCl (drawersC G.2 a v) s.heap → lv_has ls 3 [(0, .ref (a 2)), (1, .int x1), (2, .int x2)] → f_X1_howManyLocked_L4 n v x1 x2 = res → W p l e (headSpec wsX1_howManyLocked ({ frames := 0, cells := 0, slots := 0, locals := 0 } : Room)).room s m ([.ref (a 2)] : List Value).toArray below meth c s.heap [] 0 0 (MQ below (vp_Si (fun r => f_X1_howManyLocked n0 v0 = some r)) ([.ref (a 2)] : List Value).toArray s 0 0 (fun _ => False)) (F0 m 4 ls []) := by
    intro n
    induction n with
    | zero => intro v x1 x2 ls hP hl hf; exact (none_1 hf hne).elim
    | succ n ih =>
      intro v x1 x2 ls hP hl hf
      rw [f_X1_howManyLocked_L4] at hf
      refine lv_iload_n hx hb dX1_howManyLocked_4 rfl (lv_at hl 2 rfl) ?_
      refine lv_bipush (v := 6) hx hb dX1_howManyLocked_5 (by decide) ?_
      refine lv_icmp_ge (tgt := 25) hx hb dX1_howManyLocked_7 (by decide) (fun c => ?_) (fun c => ?_)
      · have hf := it_1 hf c
        refine lv_iload_n hx hb dX1_howManyLocked_25 rfl (lv_at hl 1 rfl) ?_
        exact W.iret (v := x1) hx hb hr (fun t ht hW => ⟨x1, rfl, hf0.trans hf.symm, ht⟩) (fun _ hq => absurd hq List.not_mem_nil) dX1_howManyLocked_26
      · have hf := it_2 hf c
        refine lv_iload_n hx hb dX1_howManyLocked_10 rfl (lv_at hl 1 rfl) ?_
        refine lv_aload_n hx hb dX1_howManyLocked_11 rfl (lv_at hl 0 rfl) ?_
        refine va_get (D := G.1) (ci := 1) (v := .ref (a 4)) (C := RX1) (T := TX1) (N := 4) hx hb hts hinX1 hown hK hP 0 rfl rfl 1 (by decide) lk15 (fun _ h9 => h9) rfl dX1_howManyLocked_12 ?_
        refine lv_iload_n hx hb dX1_howManyLocked_15 rfl (lv_at hl 2 rfl) ?_
        obtain ⟨hi, hf⟩ := ck_1 hf hne
        refine va_iald (f := (v 4)) hx hb hK hP 2 0 rfl rfl (ixb_1 hi) dX1_howManyLocked_16 ?_
        refine lv_iadd hx hb dX1_howManyLocked_17 ?_
        refine lv_istore_n (lv' := [(1, .int (x1 + ((v 4) (Int32.toNatClampNeg x2)))), (0, .ref (a 2)), (2, .int x2)]) hx hb dX1_howManyLocked_18 rfl hl (by decide) rfl (fun ls hl => ?_)
        refine lv_iinc (v := (x2 + 1)) (lv' := [(2, .int (x2 + 1)), (1, .int (x1 + ((v 4) (Int32.toNatClampNeg x2)))), (0, .ref (a 2))]) hx hb dX1_howManyLocked_19 hl (k := 2) rfl rfl (by decide) rfl (fun ls hl => ?_)
        refine lv_goto (tgt := 4) hx hb dX1_howManyLocked_22 (by decide) ?_
        exact ih v (x1 + ((v 4) (Int32.toNatClampNeg x2))) (x2 + 1) ls hP (lv_sub hl [2, 1, 0] rfl) hf
  refine lv_iconst (v := 0) hx hb dX1_howManyLocked_0 (by decide) ?_
  refine lv_istore_n (lv' := [(1, .int 0), (0, .ref (a 2))]) hx hb dX1_howManyLocked_1 rfl hl (by decide) rfl (fun ls hl => ?_)
  refine lv_iconst (v := 0) hx hb dX1_howManyLocked_2 (by decide) ?_
  refine lv_istore_n (lv' := [(2, .int 0), (1, .int 0), (0, .ref (a 2))]) hx hb dX1_howManyLocked_3 rfl hl (by decide) rfl (fun ls hl => ?_)
  exact L4 n0 v0 0 0 ls hP (lv_sub hl [2, 1, 0] rfl) hf
set_option maxHeartbeats 4000000 in
set_option maxRecDepth 100000 in
theorem ok_X0_heatNow (l : Launch) (G : Gt) (a : Nat → Nat) (v0 : DV) (p1 : Int32) (hne : f_X0_heatNow v0 p1 ≠ none) : Met l yX0_heatNow wsX0_heatNow ({ frames := 1, cells := 0, slots := 0, locals := 40 } : Room) (pcR G [.ref (a 0), .int p1] (deskC G.2 a v0)) (vp_Si (fun r => f_X0_heatNow v0 p1 = some r)) 0 0 (fun _ => False) := by
  refine Met.ofW (cc := cX0_heatNow) (maxL := 3) (ret := (some .int)) (by decide) rfl ?_
  intro p e s m args below meth c s₁ B hml hv
  obtain ⟨rfl, hP, hamb⟩ := hv
  have hx := B.exec
  have hb := B.bytes
  have hr := B.returns
  have hts := atoms_spec (ws := wsX0_heatNow) B.pre
  have hown : s.vm.findClass RX0 = some m.cls := findClass_of_methodNamed B.named
  have hlocks := B.notSynchronized
  have hK := hamb.1
  obtain ⟨res, hf0⟩ : ∃ res, f_X0_heatNow v0 p1 = res := ⟨_, rfl⟩
  have hne : res ≠ none := hf0 ▸ hne
  have hf := hf0
  rw [f_X0_heatNow] at hf
  have hinX0 : ∀ w ∈ u_ws RX0 TX0 4, w ∈ wsX0_heatNow := by decide +kernel
  have hinX3 : ∀ w ∈ u_ws RX3 TX3 8, w ∈ wsX0_heatNow := by decide +kernel
  have lk25 := hts (.fieldLink RX0 25 "MoodDrawers$Desk" "letters" "LMoodDrawers$Letters;") (by decide +kernel)
  have lk61 := hts (.fieldLink RX0 61 "MoodDrawers$Letters" "how" "[I") (by decide +kernel)
  have lk70 := hts (.fieldLink RX0 70 "MoodDrawers$Letters" "writtenOn" "[I") (by decide +kernel)
  have lk67 := hts (.fieldLink RX0 67 "MoodDrawers$Letters" "heat" "[I") (by decide +kernel)
  have lk9 := hts (.fieldLink RX0 9 "MoodDrawers$Desk" "settings" "[I") (by decide +kernel)
  have lw5 := hts (.methodLink RX0 136 Lib.Math.max.name) (by decide +kernel)
  have lw6 := hts (.static Lib.Math.max.name) (by decide +kernel)
  have lw7 := hts (.initialized "java/lang/Math") (by decide +kernel)
  have lw8 := hts (.code Lib.Math.max.name Lib.Math.max.code 2 (some .int)) (by decide +kernel)
  have lk120 := hts (.fieldLink RX0 120 "MoodDrawers$Letters" "sentHeat" "[I") (by decide +kernel)
  have hl := lv_entry ([.ref (a 0), .int p1]) (n := 3) (Nat.le_of_ble_eq_true rfl)
  rw [lg_entry_eq]
  generalize (lg_sl ([.ref (a 0), .int p1]) ++ List.replicate (3 - (lg_sl ([.ref (a 0), .int p1])).length) Slot.unset).toArray = ls at hl ⊢
  have hl : lv_has ls 3 [(0, .ref (a 0)), (1, .int p1)] := hl
  refine lv_aload_n hx hb dX0_heatNow_0 rfl (lv_at hl 0 rfl) ?_
  refine va_get (D := G.1) (ci := 0) (v := .ref (a 7)) (C := RX0) (T := TX0) (N := 4) hx hb hts hinX0 hown hK hP 0 rfl rfl 3 (by decide) lk25 (fun _ h9 => h9) rfl dX0_heatNow_1 ?_
  refine va_get (D := G.1) (ci := 3) (v := .ref (a 12)) (C := RX3) (T := TX3) (N := 8) hx hb hts hinX3 hown hK hP 7 rfl rfl 5 (by decide) lk61 (fun _ h9 => h9) rfl dX0_heatNow_4 ?_
  refine lv_iload_n hx hb dX0_heatNow_7 rfl (lv_at hl 1 rfl) ?_
  obtain ⟨hi, hf⟩ := ck_1 hf hne
  refine va_iald (f := (v0 11)) hx hb hK hP 12 0 rfl rfl (ixb_1 hi) dX0_heatNow_8 ?_
  refine lv_iconst (v := 1) hx hb dX0_heatNow_9 (by decide) ?_
  refine lv_icmp_ne (tgt := 23) hx hb dX0_heatNow_10 (by decide) (fun c => ?_) (fun c => ?_)
  · have hf := it_2 hf c
    refine lv_aload_n hx hb dX0_heatNow_23 rfl (lv_at hl 0 rfl) ?_
    refine vp_callSi (W.runV (As := []) (rest := []) ⟨hx, hb, hml, hown, hts⟩ (ok_X0_today l G a v0) (cwV 0 hts gX0_heatNow_X0_today rfl rfl rfl (by decide +kernel) ⟨Nat.le_of_ble_eq_true rfl, Nat.le_of_ble_eq_true rfl⟩) ⟨pcR_blind, va_recv hK hP (ci := 0) (q0 := 0) rfl rfl, pcR_pre hP hamb⟩ rfl rfl hl.1 rfl (lv_room (Nat.le_of_ble_eq_true rfl)) dX0_heatNow_24 ⟨Nat.zero_le _, Nat.zero_le _⟩) (fun r24 hw => ?_)
    subst hw
    refine lv_aload_n hx hb dX0_heatNow_27 rfl (lv_at hl 0 rfl) ?_
    refine va_get (D := G.1) (ci := 0) (v := .ref (a 7)) (C := RX0) (T := TX0) (N := 4) hx hb hts hinX0 hown hK hP 0 rfl rfl 3 (by decide) lk25 (fun _ h9 => h9) rfl dX0_heatNow_28 ?_
    refine va_get (D := G.1) (ci := 3) (v := .ref (a 10)) (C := RX3) (T := TX3) (N := 8) hx hb hts hinX3 hown hK hP 7 rfl rfl 3 (by decide) lk70 (fun _ h9 => h9) rfl dX0_heatNow_31 ?_
    refine lv_iload_n hx hb dX0_heatNow_34 rfl (lv_at hl 1 rfl) ?_
    obtain ⟨hi, hf⟩ := ck_1 hf hne
    refine va_iald (f := (v0 9)) hx hb hK hP 10 0 rfl rfl (ixb_1 hi) dX0_heatNow_35 ?_
    refine lv_isub hx hb dX0_heatNow_36 ?_
    refine lv_istore_n (lv' := [(2, .int ((f_X0_today v0) - ((v0 9) (Int32.toNatClampNeg p1)))), (0, .ref (a 0)), (1, .int p1)]) hx hb dX0_heatNow_37 rfl hl (by decide) rfl (fun ls hl => ?_)
    refine lv_iconst (v := 0) hx hb dX0_heatNow_38 (by decide) ?_
    refine lv_aload_n hx hb dX0_heatNow_39 rfl (lv_at hl 1 rfl) ?_
    refine va_get (D := G.1) (ci := 0) (v := .ref (a 7)) (C := RX0) (T := TX0) (N := 4) hx hb hts hinX0 hown hK hP 0 rfl rfl 3 (by decide) lk25 (fun _ h9 => h9) rfl dX0_heatNow_40 ?_
    refine va_get (D := G.1) (ci := 3) (v := .ref (a 9)) (C := RX3) (T := TX3) (N := 8) hx hb hts hinX3 hown hK hP 7 rfl rfl 2 (by decide) lk67 (fun _ h9 => h9) rfl dX0_heatNow_43 ?_
    refine lv_iload_n hx hb dX0_heatNow_46 rfl (lv_at hl 2 rfl) ?_
    obtain ⟨hi, hf⟩ := ck_1 hf hne
    refine va_iald (f := (v0 8)) hx hb hK hP 9 0 rfl rfl (ixb_1 hi) dX0_heatNow_47 ?_
    refine lv_aload_n hx hb dX0_heatNow_48 rfl (lv_at hl 1 rfl) ?_
    refine va_get (D := G.1) (ci := 0) (v := .ref (a 1)) (C := RX0) (T := TX0) (N := 4) hx hb hts hinX0 hown hK hP 0 rfl rfl 0 (by decide) lk9 (fun _ h9 => h9) rfl dX0_heatNow_49 ?_
    refine lv_iconst (v := 2) hx hb dX0_heatNow_52 (by decide) ?_
    refine va_iald (f := (v0 2)) hx hb hK hP 1 0 rfl rfl (ixb_1 (show ixb 2 3 = true from rfl)) dX0_heatNow_53 ?_
    refine lv_iload_n hx hb dX0_heatNow_54 rfl (lv_at hl 0 rfl) ?_
    refine lv_imul hx hb dX0_heatNow_55 ?_
    refine lv_isub hx hb dX0_heatNow_56 ?_
    refine va_mmax (rest := []) hx hb (hml.trans hl.1.symm) hown lw5 lw6 lw7 lw8 (Nat.le_of_ble_eq_true rfl) (Nat.le_of_ble_eq_true rfl) (Nat.zero_le _) (Nat.zero_le _) dX0_heatNow_57 ?_
    exact W.iret (v := (if 0 < (((v0 8) (Int32.toNatClampNeg p1)) - (((v0 2) (Int32.toNatClampNeg 2)) * ((f_X0_today v0) - ((v0 9) (Int32.toNatClampNeg p1))))) then (((v0 8) (Int32.toNatClampNeg p1)) - (((v0 2) (Int32.toNatClampNeg 2)) * ((f_X0_today v0) - ((v0 9) (Int32.toNatClampNeg p1))))) else 0)) hx hb hr (fun t ht hW => ⟨(if 0 < (((v0 8) (Int32.toNatClampNeg p1)) - (((v0 2) (Int32.toNatClampNeg 2)) * ((f_X0_today v0) - ((v0 9) (Int32.toNatClampNeg p1))))) then (((v0 8) (Int32.toNatClampNeg p1)) - (((v0 2) (Int32.toNatClampNeg 2)) * ((f_X0_today v0) - ((v0 9) (Int32.toNatClampNeg p1))))) else 0), rfl, hf0.trans hf.symm, ht⟩) (fun _ hq => absurd hq List.not_mem_nil) dX0_heatNow_60
  · have hf := it_1 hf c
    refine lv_aload_n hx hb dX0_heatNow_13 rfl (lv_at hl 0 rfl) ?_
    refine va_get (D := G.1) (ci := 0) (v := .ref (a 7)) (C := RX0) (T := TX0) (N := 4) hx hb hts hinX0 hown hK hP 0 rfl rfl 3 (by decide) lk25 (fun _ h9 => h9) rfl dX0_heatNow_14 ?_
    refine va_get (D := G.1) (ci := 3) (v := .ref (a 14)) (C := RX3) (T := TX3) (N := 8) hx hb hts hinX3 hown hK hP 7 rfl rfl 7 (by decide) lk120 (fun _ h9 => h9) rfl dX0_heatNow_17 ?_
    refine lv_iload_n hx hb dX0_heatNow_20 rfl (lv_at hl 1 rfl) ?_
    obtain ⟨hi, hf⟩ := ck_1 hf hne
    refine va_iald (f := (v0 13)) hx hb hK hP 14 0 rfl rfl (ixb_1 hi) dX0_heatNow_21 ?_
    exact W.iret (v := ((v0 13) (Int32.toNatClampNeg p1))) hx hb hr (fun t ht hW => ⟨((v0 13) (Int32.toNatClampNeg p1)), rfl, hf0.trans hf.symm, ht⟩) (fun _ hq => absurd hq List.not_mem_nil) dX0_heatNow_22
set_option maxHeartbeats 4000000 in
set_option maxRecDepth 100000 in
theorem ok_X0_writeLetter (l : Launch) (G : Gt) (a : Nat → Nat) (sz : Nat) (n0 : Nat) (v0 : DV) (p1 : Int32) (p2 : Int32) (p3 : Int32) (hne : f_X0_writeLetter n0 v0 p1 p2 p3 ≠ none) : Met l yX0_writeLetter wsX0_writeLetter ({ frames := 1, cells := 0, slots := 0, locals := 24 } : Room) (pcW G [.ref (a 0), .int p1, .int p2, .int p3] (deskC G.2 a v0) sz) (va_Qi (fun r (u : DV) => f_X0_writeLetter n0 v0 p1 p2 p3 = some (r, u)) (fun u t => atW G (deskC G.2 a u) (va_A (deskC G.2 a v0) sz) t) (va_A (deskC G.2 a v0) sz)) 0 0 (va_A (deskC G.2 a v0) sz) := by
  refine Met.ofW (cc := cX0_writeLetter) (maxL := 5) (ret := (some .int)) (by decide) rfl ?_
  intro p e s m args below meth c s₁ B hml hv
  obtain ⟨rfl, hsz, hP, hD0, hamb⟩ := hv
  have hx := B.exec
  have hb := B.bytes
  have hr := B.returns
  have hts := atoms_spec (ws := wsX0_writeLetter) B.pre
  have hown : s.vm.findClass RX0 = some m.cls := findClass_of_methodNamed B.named
  have hlocks := B.notSynchronized
  have hK := hamb.1
  subst hsz
  have hD := hD0.self (sz := s.heap.size)
  generalize hAe : va_A (deskC G.2 a v0) s.heap.size = A at hD ⊢
  have hA : ∀ q : Nat, s.heap.size ≤ q → A q := fun q h => by rw [← hAe]; exact Or.inr h
  have hS : va_S A s.heap s.heap [] := va_S.rf
  obtain ⟨res, hf0⟩ : ∃ res, f_X0_writeLetter n0 v0 p1 p2 p3 = res := ⟨_, rfl⟩
  have hne : res ≠ none := hf0 ▸ hne
  have hf := hf0
  rw [f_X0_writeLetter] at hf
  have hinX0 : ∀ w ∈ u_ws RX0 TX0 4, w ∈ wsX0_writeLetter := by decide +kernel
  have hinX3 : ∀ w ∈ u_ws RX3 TX3 8, w ∈ wsX0_writeLetter := by decide +kernel
  have lw0 := hts (.initialized RX6) (by decide +kernel)
  have lw1 := hts (.static yX6_isMood) (by decide +kernel)
  have lk25 := hts (.fieldLink RX0 25 "MoodDrawers$Desk" "letters" "LMoodDrawers$Letters;") (by decide +kernel)
  have lk54 := hts (.fieldLink RX0 54 "MoodDrawers$Letters" "written" "I") (by decide +kernel)
  have lk64 := hts (.fieldLink RX0 64 "MoodDrawers$Letters" "mood" "[I") (by decide +kernel)
  have lk67 := hts (.fieldLink RX0 67 "MoodDrawers$Letters" "heat" "[I") (by decide +kernel)
  have lk70 := hts (.fieldLink RX0 70 "MoodDrawers$Letters" "writtenOn" "[I") (by decide +kernel)
  have lk77 := hts (.fieldLink RX0 77 "MoodDrawers$Letters" "answered" "[I") (by decide +kernel)
  have lk61 := hts (.fieldLink RX0 61 "MoodDrawers$Letters" "how" "[I") (by decide +kernel)
  have lk80 := hts (.fieldLink RX0 80 "MoodDrawers$Letters" "sentOn" "[I") (by decide +kernel)
  have hl := lv_entry ([.ref (a 0), .int p1, .int p2, .int p3]) (n := 5) (Nat.le_of_ble_eq_true rfl)
  rw [lg_entry_eq]
  generalize (lg_sl ([.ref (a 0), .int p1, .int p2, .int p3]) ++ List.replicate (5 - (lg_sl ([.ref (a 0), .int p1, .int p2, .int p3])).length) Slot.unset).toArray = ls at hl ⊢
  have hl : lv_has ls 5 [(0, .ref (a 0)), (1, .int p1), (2, .int p2), (3, .int p3)] := hl
  have J94 : ∀ (n : Nat) (v : DV) (x1 : Int32) (x2 : Int32) (x3 : Int32) (x4 : Int32) (H : Heap) (locs : List Loc) (ls : Array Slot), va_P G.1 vwCl (deskC G.2 a v) H → va_D A (deskC G.2 a v) → va_S A s.heap H locs → lv_has ls 5 [(0, .ref (a 0)), (1, .int x1), (2, .int x2), (3, .int x3), (4, .int x4)] → f_X0_writeLetter_J94 n v x1 x2 x3 x4 = res → W p l e (headSpec wsX0_writeLetter ({ frames := 1, cells := 0, slots := 0, locals := 24 } : Room)).room s m ([.ref (a 0), .int p1, .int p2, .int p3] : List Value).toArray below meth c H locs 0 0 (MQ below (va_Qi (fun r (u : DV) => f_X0_writeLetter n0 v0 p1 p2 p3 = some (r, u)) (fun u t => atW G (deskC G.2 a u) A t) A) ([.ref (a 0), .int p1, .int p2, .int p3] : List Value).toArray s 0 0 A) (F0 m 94 ls []) := by
    intro n v x1 x2 x3 x4 H locs ls hP hD hS hl hf
    rw [f_X0_writeLetter_J94] at hf
    refine lv_aload_n hx hb dX0_writeLetter_94 rfl (lv_at hl 0 rfl) ?_
    refine va_get (D := G.1) (ci := 0) (v := .ref (a 7)) (C := RX0) (T := TX0) (N := 4) hx hb hts hinX0 hown hK hP 0 rfl rfl 3 (by decide) lk25 (fun _ h9 => h9) rfl dX0_writeLetter_95 ?_
    refine va_get (D := G.1) (ci := 3) (v := .ref (a 8)) (C := RX3) (T := TX3) (N := 8) hx hb hts hinX3 hown hK hP 7 rfl rfl 1 (by decide) lk64 (fun _ h9 => h9) rfl dX0_writeLetter_98 ?_
    refine lv_iload hx hb dX0_writeLetter_101 (lv_at hl 4 rfl) ?_
    refine lv_iload_n hx hb dX0_writeLetter_103 rfl (lv_at hl 1 rfl) ?_
    obtain ⟨hi, hf⟩ := ck_1 hf hne
    refine va_iast (f := (v 7)) hx hb hK hP hD hS 8 0 rfl rfl (ixb_1 hi) dX0_writeLetter_104 (fun H locs hP hD hS => ?_)
    have hP : va_P G.1 vwCl (deskC G.2 a (vs v 7 (upd (v 7) (Int32.toNatClampNeg x4) x1))) H := hP
    have hD : va_D A (deskC G.2 a (vs v 7 (upd (v 7) (Int32.toNatClampNeg x4) x1))) := hD
    refine lv_aload_n hx hb dX0_writeLetter_105 rfl (lv_at hl 0 rfl) ?_
    refine va_get (D := G.1) (ci := 0) (v := .ref (a 7)) (C := RX0) (T := TX0) (N := 4) hx hb hts hinX0 hown hK hP 0 rfl rfl 3 (by decide) lk25 (fun _ h9 => h9) rfl dX0_writeLetter_106 ?_
    refine va_get (D := G.1) (ci := 3) (v := .ref (a 9)) (C := RX3) (T := TX3) (N := 8) hx hb hts hinX3 hown hK hP 7 rfl rfl 2 (by decide) lk67 (fun _ h9 => h9) rfl dX0_writeLetter_109 ?_
    refine lv_iload hx hb dX0_writeLetter_112 (lv_at hl 4 rfl) ?_
    refine lv_iload_n hx hb dX0_writeLetter_114 rfl (lv_at hl 2 rfl) ?_
    obtain ⟨hi, hf⟩ := ck_1 hf hne
    refine va_iast (f := (v 8)) hx hb hK hP hD hS 9 0 rfl rfl (ixb_1 hi) dX0_writeLetter_115 (fun H locs hP hD hS => ?_)
    have hP : va_P G.1 vwCl (deskC G.2 a (vs (vs v 7 (upd (v 7) (Int32.toNatClampNeg x4) x1)) 8 (upd (v 8) (Int32.toNatClampNeg x4) x2))) H := hP
    have hD : va_D A (deskC G.2 a (vs (vs v 7 (upd (v 7) (Int32.toNatClampNeg x4) x1)) 8 (upd (v 8) (Int32.toNatClampNeg x4) x2))) := hD
    refine lv_aload_n hx hb dX0_writeLetter_116 rfl (lv_at hl 0 rfl) ?_
    refine va_get (D := G.1) (ci := 0) (v := .ref (a 7)) (C := RX0) (T := TX0) (N := 4) hx hb hts hinX0 hown hK hP 0 rfl rfl 3 (by decide) lk25 (fun _ h9 => h9) rfl dX0_writeLetter_117 ?_
    refine va_get (D := G.1) (ci := 3) (v := .ref (a 10)) (C := RX3) (T := TX3) (N := 8) hx hb hts hinX3 hown hK hP 7 rfl rfl 3 (by decide) lk70 (fun _ h9 => h9) rfl dX0_writeLetter_120 ?_
    refine lv_iload hx hb dX0_writeLetter_123 (lv_at hl 4 rfl) ?_
    refine lv_aload_n hx hb dX0_writeLetter_125 rfl (lv_at hl 0 rfl) ?_
    refine vp_callSi (W.runV (As := []) (rest := [.int x4, .ref (a 10)]) ⟨hx, hb, hml, hown, hts⟩ (ok_X0_today l G a (vs (vs v 7 (upd (v 7) (Int32.toNatClampNeg x4) x1)) 8 (upd (v 8) (Int32.toNatClampNeg x4) x2))) (cwV 0 hts gX0_writeLetter_X0_today rfl rfl rfl (by decide +kernel) ⟨Nat.le_of_ble_eq_true rfl, Nat.le_of_ble_eq_true rfl⟩) ⟨pcR_blind, va_recv hK hP (ci := 0) (q0 := 0) rfl rfl, pcR_pre hP hamb⟩ rfl rfl hl.1 rfl (lv_room (Nat.le_of_ble_eq_true rfl)) dX0_writeLetter_126 ⟨Nat.zero_le _, Nat.zero_le _⟩) (fun r126 hw => ?_)
    subst hw
    obtain ⟨hi, hf⟩ := ck_1 hf hne
    refine va_iast (f := (v 9)) hx hb hK hP hD hS 10 0 rfl rfl (ixb_1 hi) dX0_writeLetter_129 (fun H locs hP hD hS => ?_)
    have hP : va_P G.1 vwCl (deskC G.2 a (vs (vs (vs v 7 (upd (v 7) (Int32.toNatClampNeg x4) x1)) 8 (upd (v 8) (Int32.toNatClampNeg x4) x2)) 9 (upd (v 9) (Int32.toNatClampNeg x4) (f_X0_today (vs (vs v 7 (upd (v 7) (Int32.toNatClampNeg x4) x1)) 8 (upd (v 8) (Int32.toNatClampNeg x4) x2)))))) H := hP
    have hD : va_D A (deskC G.2 a (vs (vs (vs v 7 (upd (v 7) (Int32.toNatClampNeg x4) x1)) 8 (upd (v 8) (Int32.toNatClampNeg x4) x2)) 9 (upd (v 9) (Int32.toNatClampNeg x4) (f_X0_today (vs (vs v 7 (upd (v 7) (Int32.toNatClampNeg x4) x1)) 8 (upd (v 8) (Int32.toNatClampNeg x4) x2)))))) := hD
    refine lv_aload_n hx hb dX0_writeLetter_130 rfl (lv_at hl 0 rfl) ?_
    refine va_get (D := G.1) (ci := 0) (v := .ref (a 7)) (C := RX0) (T := TX0) (N := 4) hx hb hts hinX0 hown hK hP 0 rfl rfl 3 (by decide) lk25 (fun _ h9 => h9) rfl dX0_writeLetter_131 ?_
    refine va_get (D := G.1) (ci := 3) (v := .ref (a 11)) (C := RX3) (T := TX3) (N := 8) hx hb hts hinX3 hown hK hP 7 rfl rfl 4 (by decide) lk77 (fun _ h9 => h9) rfl dX0_writeLetter_134 ?_
    refine lv_iload hx hb dX0_writeLetter_137 (lv_at hl 4 rfl) ?_
    refine lv_iload_n hx hb dX0_writeLetter_139 rfl (lv_at hl 3 rfl) ?_
    obtain ⟨hi, hf⟩ := ck_1 hf hne
    refine va_iast (f := (v 10)) hx hb hK hP hD hS 11 0 rfl rfl (ixb_1 hi) dX0_writeLetter_140 (fun H locs hP hD hS => ?_)
    have hP : va_P G.1 vwCl (deskC G.2 a (vs (vs (vs (vs v 7 (upd (v 7) (Int32.toNatClampNeg x4) x1)) 8 (upd (v 8) (Int32.toNatClampNeg x4) x2)) 9 (upd (v 9) (Int32.toNatClampNeg x4) (f_X0_today (vs (vs v 7 (upd (v 7) (Int32.toNatClampNeg x4) x1)) 8 (upd (v 8) (Int32.toNatClampNeg x4) x2))))) 10 (upd (v 10) (Int32.toNatClampNeg x4) x3))) H := hP
    have hD : va_D A (deskC G.2 a (vs (vs (vs (vs v 7 (upd (v 7) (Int32.toNatClampNeg x4) x1)) 8 (upd (v 8) (Int32.toNatClampNeg x4) x2)) 9 (upd (v 9) (Int32.toNatClampNeg x4) (f_X0_today (vs (vs v 7 (upd (v 7) (Int32.toNatClampNeg x4) x1)) 8 (upd (v 8) (Int32.toNatClampNeg x4) x2))))) 10 (upd (v 10) (Int32.toNatClampNeg x4) x3))) := hD
    refine lv_aload_n hx hb dX0_writeLetter_141 rfl (lv_at hl 0 rfl) ?_
    refine va_get (D := G.1) (ci := 0) (v := .ref (a 7)) (C := RX0) (T := TX0) (N := 4) hx hb hts hinX0 hown hK hP 0 rfl rfl 3 (by decide) lk25 (fun _ h9 => h9) rfl dX0_writeLetter_142 ?_
    refine va_get (D := G.1) (ci := 3) (v := .ref (a 12)) (C := RX3) (T := TX3) (N := 8) hx hb hts hinX3 hown hK hP 7 rfl rfl 5 (by decide) lk61 (fun _ h9 => h9) rfl dX0_writeLetter_145 ?_
    refine lv_iload hx hb dX0_writeLetter_148 (lv_at hl 4 rfl) ?_
    refine lv_iconst (v := 0) hx hb dX0_writeLetter_150 (by decide) ?_
    obtain ⟨hi, hf⟩ := ck_1 hf hne
    refine va_iast (f := (v 11)) hx hb hK hP hD hS 12 0 rfl rfl (ixb_1 hi) dX0_writeLetter_151 (fun H locs hP hD hS => ?_)
    have hP : va_P G.1 vwCl (deskC G.2 a (vs (vs (vs (vs (vs v 7 (upd (v 7) (Int32.toNatClampNeg x4) x1)) 8 (upd (v 8) (Int32.toNatClampNeg x4) x2)) 9 (upd (v 9) (Int32.toNatClampNeg x4) (f_X0_today (vs (vs v 7 (upd (v 7) (Int32.toNatClampNeg x4) x1)) 8 (upd (v 8) (Int32.toNatClampNeg x4) x2))))) 10 (upd (v 10) (Int32.toNatClampNeg x4) x3)) 11 (upd (v 11) (Int32.toNatClampNeg x4) 0))) H := hP
    have hD : va_D A (deskC G.2 a (vs (vs (vs (vs (vs v 7 (upd (v 7) (Int32.toNatClampNeg x4) x1)) 8 (upd (v 8) (Int32.toNatClampNeg x4) x2)) 9 (upd (v 9) (Int32.toNatClampNeg x4) (f_X0_today (vs (vs v 7 (upd (v 7) (Int32.toNatClampNeg x4) x1)) 8 (upd (v 8) (Int32.toNatClampNeg x4) x2))))) 10 (upd (v 10) (Int32.toNatClampNeg x4) x3)) 11 (upd (v 11) (Int32.toNatClampNeg x4) 0))) := hD
    refine lv_aload_n hx hb dX0_writeLetter_152 rfl (lv_at hl 0 rfl) ?_
    refine va_get (D := G.1) (ci := 0) (v := .ref (a 7)) (C := RX0) (T := TX0) (N := 4) hx hb hts hinX0 hown hK hP 0 rfl rfl 3 (by decide) lk25 (fun _ h9 => h9) rfl dX0_writeLetter_153 ?_
    refine va_get (D := G.1) (ci := 3) (v := .ref (a 13)) (C := RX3) (T := TX3) (N := 8) hx hb hts hinX3 hown hK hP 7 rfl rfl 6 (by decide) lk80 (fun _ h9 => h9) rfl dX0_writeLetter_156 ?_
    refine lv_iload hx hb dX0_writeLetter_159 (lv_at hl 4 rfl) ?_
    refine lv_bipush (v := (-6)) hx hb dX0_writeLetter_161 (by decide) ?_
    obtain ⟨hi, hf⟩ := ck_1 hf hne
    refine va_iast (f := (v 12)) hx hb hK hP hD hS 13 0 rfl rfl (ixb_1 hi) dX0_writeLetter_163 (fun H locs hP hD hS => ?_)
    have hP : va_P G.1 vwCl (deskC G.2 a (vs (vs (vs (vs (vs (vs v 7 (upd (v 7) (Int32.toNatClampNeg x4) x1)) 8 (upd (v 8) (Int32.toNatClampNeg x4) x2)) 9 (upd (v 9) (Int32.toNatClampNeg x4) (f_X0_today (vs (vs v 7 (upd (v 7) (Int32.toNatClampNeg x4) x1)) 8 (upd (v 8) (Int32.toNatClampNeg x4) x2))))) 10 (upd (v 10) (Int32.toNatClampNeg x4) x3)) 11 (upd (v 11) (Int32.toNatClampNeg x4) 0)) 12 (upd (v 12) (Int32.toNatClampNeg x4) (-6)))) H := hP
    have hD : va_D A (deskC G.2 a (vs (vs (vs (vs (vs (vs v 7 (upd (v 7) (Int32.toNatClampNeg x4) x1)) 8 (upd (v 8) (Int32.toNatClampNeg x4) x2)) 9 (upd (v 9) (Int32.toNatClampNeg x4) (f_X0_today (vs (vs v 7 (upd (v 7) (Int32.toNatClampNeg x4) x1)) 8 (upd (v 8) (Int32.toNatClampNeg x4) x2))))) 10 (upd (v 10) (Int32.toNatClampNeg x4) x3)) 11 (upd (v 11) (Int32.toNatClampNeg x4) 0)) 12 (upd (v 12) (Int32.toNatClampNeg x4) (-6)))) := hD
    refine lv_aload_n hx hb dX0_writeLetter_164 rfl (lv_at hl 0 rfl) ?_
    refine va_get (D := G.1) (ci := 0) (v := .ref (a 7)) (C := RX0) (T := TX0) (N := 4) hx hb hts hinX0 hown hK hP 0 rfl rfl 3 (by decide) lk25 (fun _ h9 => h9) rfl dX0_writeLetter_165 ?_
    refine lv_iload hx hb dX0_writeLetter_168 (lv_at hl 4 rfl) ?_
    refine lv_iconst (v := 1) hx hb dX0_writeLetter_170 (by decide) ?_
    refine lv_iadd hx hb dX0_writeLetter_171 ?_
    refine va_put (D := G.1) (ci := 3) (v := .int (x4 + 1)) (ty := .int) (C := RX3) (T := TX3) (N := 8) hx hb hts hinX3 tyX3 tyX3_ok nmX3 hown hK hP hD hS 7 rfl rfl 0 (by decide) lk54 (fun _ h9 => h9) rfl (by decide +kernel) rfl rfl (Nat.le_of_ble_eq_true rfl) dX0_writeLetter_172 (fun H locs hP hD hS => ?_)
    have hP : va_P G.1 vwCl (deskC G.2 a (vs (vs (vs (vs (vs (vs (vs v 7 (upd (v 7) (Int32.toNatClampNeg x4) x1)) 8 (upd (v 8) (Int32.toNatClampNeg x4) x2)) 9 (upd (v 9) (Int32.toNatClampNeg x4) (f_X0_today (vs (vs v 7 (upd (v 7) (Int32.toNatClampNeg x4) x1)) 8 (upd (v 8) (Int32.toNatClampNeg x4) x2))))) 10 (upd (v 10) (Int32.toNatClampNeg x4) x3)) 11 (upd (v 11) (Int32.toNatClampNeg x4) 0)) 12 (upd (v 12) (Int32.toNatClampNeg x4) (-6))) 1 (fun _ => (x4 + 1)))) H := hP
    have hD : va_D A (deskC G.2 a (vs (vs (vs (vs (vs (vs (vs v 7 (upd (v 7) (Int32.toNatClampNeg x4) x1)) 8 (upd (v 8) (Int32.toNatClampNeg x4) x2)) 9 (upd (v 9) (Int32.toNatClampNeg x4) (f_X0_today (vs (vs v 7 (upd (v 7) (Int32.toNatClampNeg x4) x1)) 8 (upd (v 8) (Int32.toNatClampNeg x4) x2))))) 10 (upd (v 10) (Int32.toNatClampNeg x4) x3)) 11 (upd (v 11) (Int32.toNatClampNeg x4) 0)) 12 (upd (v 12) (Int32.toNatClampNeg x4) (-6))) 1 (fun _ => (x4 + 1)))) := hD
    refine lv_iload hx hb dX0_writeLetter_175 (lv_at hl 4 rfl) ?_
    exact W.iret (v := x4) hx hb hr (fun t ht hW => ⟨⟨x4, (vs (vs (vs (vs (vs (vs (vs v 7 (upd (v 7) (Int32.toNatClampNeg x4) x1)) 8 (upd (v 8) (Int32.toNatClampNeg x4) x2)) 9 (upd (v 9) (Int32.toNatClampNeg x4) (f_X0_today (vs (vs v 7 (upd (v 7) (Int32.toNatClampNeg x4) x1)) 8 (upd (v 8) (Int32.toNatClampNeg x4) x2))))) 10 (upd (v 10) (Int32.toNatClampNeg x4) x3)) 11 (upd (v 11) (Int32.toNatClampNeg x4) 0)) 12 (upd (v 12) (Int32.toNatClampNeg x4) (-6))) 1 (fun _ => (x4 + 1))), rfl, hf0.trans hf.symm, by rw [ht]; exact hP, hD⟩, hS.F ht⟩) hS.2.2 dX0_writeLetter_177
  have J26 : ∀ (n : Nat) (v : DV) (x1 : Int32) (x2 : Int32) (x3 : Int32) (H : Heap) (locs : List Loc) (ls : Array Slot), va_P G.1 vwCl (deskC G.2 a v) H → va_D A (deskC G.2 a v) → va_S A s.heap H locs → lv_has ls 5 [(0, .ref (a 0)), (1, .int x1), (2, .int x2), (3, .int x3)] → f_X0_writeLetter_J26 n v x1 x2 x3 = res → W p l e (headSpec wsX0_writeLetter ({ frames := 1, cells := 0, slots := 0, locals := 24 } : Room)).room s m ([.ref (a 0), .int p1, .int p2, .int p3] : List Value).toArray below meth c H locs 0 0 (MQ below (va_Qi (fun r (u : DV) => f_X0_writeLetter n0 v0 p1 p2 p3 = some (r, u)) (fun u t => atW G (deskC G.2 a u) A t) A) ([.ref (a 0), .int p1, .int p2, .int p3] : List Value).toArray s 0 0 A) (F0 m 26 ls []) := by
    intro n v x1 x2 x3 H locs ls hP hD hS hl hf
    rw [f_X0_writeLetter_J26] at hf
    refine lv_iload_n hx hb dX0_writeLetter_26 rfl (lv_at hl 2 rfl) ?_
    refine lv_if_lt (tgt := 36) hx hb dX0_writeLetter_27 (by decide) (fun c => ?_) (fun c => ?_)
    · have hf := it_1 hf c
      refine lv_bipush (v := (-2)) hx hb dX0_writeLetter_36 (by decide) ?_
      exact W.iret (v := (-2)) hx hb hr (fun t ht hW => ⟨⟨(-2), v, rfl, hf0.trans hf.symm, by rw [ht]; exact hP, hD⟩, hS.F ht⟩) hS.2.2 dX0_writeLetter_38
    · have hf := it_2 hf c
      refine lv_iload_n hx hb dX0_writeLetter_30 rfl (lv_at hl 2 rfl) ?_
      refine lv_bipush (v := 99) hx hb dX0_writeLetter_31 (by decide) ?_
      refine lv_icmp_le (tgt := 39) hx hb dX0_writeLetter_33 (by decide) (fun c => ?_) (fun c => ?_)
      · have hf := it_1 hf c
        refine lv_aload_n hx hb dX0_writeLetter_39 rfl (lv_at hl 0 rfl) ?_
        refine va_get (D := G.1) (ci := 0) (v := .ref (a 7)) (C := RX0) (T := TX0) (N := 4) hx hb hts hinX0 hown hK hP 0 rfl rfl 3 (by decide) lk25 (fun _ h9 => h9) rfl dX0_writeLetter_40 ?_
        refine va_get (D := G.1) (ci := 3) (v := .int (v 1 0)) (C := RX3) (T := TX3) (N := 8) hx hb hts hinX3 hown hK hP 7 rfl rfl 0 (by decide) lk54 (fun _ h9 => h9) rfl dX0_writeLetter_43 ?_
        refine lv_istore (lv' := [(4, .int (v 1 0)), (0, .ref (a 0)), (1, .int x1), (2, .int x2), (3, .int x3)]) hx hb dX0_writeLetter_46 hl (by decide) rfl (fun ls hl => ?_)
        refine lv_iload hx hb dX0_writeLetter_48 (lv_at hl 0 rfl) ?_
        refine lv_bipush (v := 30) hx hb dX0_writeLetter_50 (by decide) ?_
        refine lv_icmp_ge (tgt := 69) hx hb dX0_writeLetter_52 (by decide) (fun c => ?_) (fun c => ?_)
        · have hf := it_1 hf c
          refine lv_bipush (v := (-4)) hx hb dX0_writeLetter_69 (by decide) ?_
          exact W.iret (v := (-4)) hx hb hr (fun t ht hW => ⟨⟨(-4), v, rfl, hf0.trans hf.symm, by rw [ht]; exact hP, hD⟩, hS.F ht⟩) hS.2.2 dX0_writeLetter_71
        · have hf := it_2 hf c
          refine lv_aload_n hx hb dX0_writeLetter_55 rfl (lv_at hl 1 rfl) ?_
          refine va_get (D := G.1) (ci := 0) (v := .ref (a 7)) (C := RX0) (T := TX0) (N := 4) hx hb hts hinX0 hown hK hP 0 rfl rfl 3 (by decide) lk25 (fun _ h9 => h9) rfl dX0_writeLetter_56 ?_
          refine lv_iload_n hx hb dX0_writeLetter_59 rfl (lv_at hl 2 rfl) ?_
          refine lv_iconst (v := 0) hx hb dX0_writeLetter_60 (by decide) ?_
          have hn := bd1_1 hf hne
          refine vp_callSi (W.runV (As := [.int x1, .int 0]) (rest := []) ⟨hx, hb, hml, hown, hts⟩ (ok_X3_ofMood l G a n v x1 0 hn) (cwV 2 hts gX0_writeLetter_X3_ofMood rfl rfl rfl (by decide +kernel) ⟨Nat.le_of_ble_eq_true rfl, Nat.le_of_ble_eq_true rfl⟩) ⟨pcR_blind, va_recv hK (hP.sub (ws' := (lettersC G.2 a v)) [7, 8, 9, 10, 11, 12, 13, 14] rfl) (ci := 3) (q0 := 0) rfl rfl, pcR_pre (hP.sub (ws' := (lettersC G.2 a v)) [7, 8, 9, 10, 11, 12, 13, 14] rfl) hamb⟩ rfl rfl hl.1 rfl (lv_room (Nat.le_of_ble_eq_true rfl)) dX0_writeLetter_61 ⟨Nat.zero_le _, Nat.zero_le _⟩) (fun r61 hw => ?_)
          have hf := bd1_2 hf hw
          refine lv_bipush (v := 8) hx hb dX0_writeLetter_64 (by decide) ?_
          refine lv_icmp_lt (tgt := 72) hx hb dX0_writeLetter_66 (by decide) (fun c => ?_) (fun c => ?_)
          · have hf := it_1 hf c
            refine lv_iload_n hx hb dX0_writeLetter_72 rfl (lv_at hl 4 rfl) ?_
            refine lv_bipush (v := (-6)) hx hb dX0_writeLetter_73 (by decide) ?_
            refine lv_icmp_eq (tgt := 94) hx hb dX0_writeLetter_75 (by decide) (fun c => ?_) (fun c => ?_)
            · have hf := it_1 hf c
              exact J94 n v x1 x2 x3 (v 1 0) H locs ls hP hD hS (lv_sub hl [1, 2, 3, 4, 0] rfl) hf
            · have hf := it_2 hf c
              refine lv_aload_n hx hb dX0_writeLetter_78 rfl (lv_at hl 1 rfl) ?_
              refine va_get (D := G.1) (ci := 0) (v := .ref (a 7)) (C := RX0) (T := TX0) (N := 4) hx hb hts hinX0 hown hK hP 0 rfl rfl 3 (by decide) lk25 (fun _ h9 => h9) rfl dX0_writeLetter_79 ?_
              refine va_get (D := G.1) (ci := 3) (v := .ref (a 12)) (C := RX3) (T := TX3) (N := 8) hx hb hts hinX3 hown hK hP 7 rfl rfl 5 (by decide) lk61 (fun _ h9 => h9) rfl dX0_writeLetter_82 ?_
              refine lv_iload_n hx hb dX0_writeLetter_85 rfl (lv_at hl 4 rfl) ?_
              obtain ⟨hi, hf⟩ := ck_1 hf hne
              refine va_iald (f := (v 11)) hx hb hK hP 12 0 rfl rfl (ixb_1 hi) dX0_writeLetter_86 ?_
              refine lv_iconst (v := 1) hx hb dX0_writeLetter_87 (by decide) ?_
              refine lv_icmp_eq (tgt := 94) hx hb dX0_writeLetter_88 (by decide) (fun c => ?_) (fun c => ?_)
              · have hf := it_1 hf c
                exact J94 n v x1 x2 x3 (v 1 0) H locs ls hP hD hS (lv_sub hl [1, 2, 3, 4, 0] rfl) hf
              · have hf := it_2 hf c
                refine lv_bipush (v := (-5)) hx hb dX0_writeLetter_91 (by decide) ?_
                exact W.iret (v := (-5)) hx hb hr (fun t ht hW => ⟨⟨(-5), v, rfl, hf0.trans hf.symm, by rw [ht]; exact hP, hD⟩, hS.F ht⟩) hS.2.2 dX0_writeLetter_93
          · have hf := it_2 hf c
            refine lv_bipush (v := (-4)) hx hb dX0_writeLetter_69 (by decide) ?_
            exact W.iret (v := (-4)) hx hb hr (fun t ht hW => ⟨⟨(-4), v, rfl, hf0.trans hf.symm, by rw [ht]; exact hP, hD⟩, hS.F ht⟩) hS.2.2 dX0_writeLetter_71
      · have hf := it_2 hf c
        refine lv_bipush (v := (-2)) hx hb dX0_writeLetter_36 (by decide) ?_
        exact W.iret (v := (-2)) hx hb hr (fun t ht hW => ⟨⟨(-2), v, rfl, hf0.trans hf.symm, by rw [ht]; exact hP, hD⟩, hS.F ht⟩) hS.2.2 dX0_writeLetter_38
  refine lv_iload_n hx hb dX0_writeLetter_0 rfl (lv_at hl 1 rfl) ?_
  refine vp_callSi ((va_runSN (As := [.int p1]) (rest := []) ⟨hx, hb, hml, hown, hts⟩ (ok_X6_isMood l p1) ⟨va_cnB 1 hts gX0_writeLetter_X6_isMood_n47 rfl rfl rfl (hamb.2.1 (.methodLinkNest RX0 47 yX6_isMood RX6) (List.mem_of_getElem? (i := 10) rfl)) lw0 (by decide +kernel) ⟨Nat.le_of_ble_eq_true rfl, Nat.le_of_ble_eq_true rfl⟩, lw1, trivial⟩ ⟨fun _ _ _ _ q => q, fun _ _ _ => ⟨rfl, trivial⟩⟩ rfl rfl hl.1 rfl (lv_room (Nat.le_of_ble_eq_true rfl)) dX0_writeLetter_1 ⟨Nat.zero_le _, Nat.zero_le _⟩).run) (fun r1 hw => ?_)
  subst hw
  refine lv_if_eq (tgt := 24) hx hb dX0_writeLetter_4 (by decide) (fun c => ?_) (fun c => ?_)
  · have hf := it_1 hf c
    refine lv_iconst (v := (-1)) hx hb dX0_writeLetter_24 (by decide) ?_
    exact W.iret (v := (-1)) hx hb hr (fun t ht hW => ⟨⟨(-1), v0, rfl, hf0.trans hf.symm, by rw [ht]; exact hP, hD⟩, hS.F ht⟩) hS.2.2 dX0_writeLetter_25
  · have hf := it_2 hf c
    refine lv_iload_n hx hb dX0_writeLetter_7 rfl (lv_at hl 3 rfl) ?_
    refine lv_bipush (v := (-6)) hx hb dX0_writeLetter_8 (by decide) ?_
    refine lv_icmp_eq (tgt := 26) hx hb dX0_writeLetter_10 (by decide) (fun c => ?_) (fun c => ?_)
    · have hf := it_1 hf c
      exact J26 n0 v0 p1 p2 p3 s.heap [] ls hP hD hS (lv_sub hl [0, 1, 2, 3] rfl) hf
    · have hf := it_2 hf c
      refine lv_aload_n hx hb dX0_writeLetter_13 rfl (lv_at hl 0 rfl) ?_
      refine va_get (D := G.1) (ci := 0) (v := .ref (a 7)) (C := RX0) (T := TX0) (N := 4) hx hb hts hinX0 hown hK hP 0 rfl rfl 3 (by decide) lk25 (fun _ h9 => h9) rfl dX0_writeLetter_14 ?_
      refine lv_iload_n hx hb dX0_writeLetter_17 rfl (lv_at hl 3 rfl) ?_
      refine vp_callSi (W.runV (As := [.int p3]) (rest := []) ⟨hx, hb, hml, hown, hts⟩ (ok_X3_isLetter l G a v0 p3) (cwV 1 hts gX0_writeLetter_X3_isLetter rfl rfl rfl (by decide +kernel) ⟨Nat.le_of_ble_eq_true rfl, Nat.le_of_ble_eq_true rfl⟩) ⟨pcR_blind, va_recv hK (hP.sub (ws' := (lettersC G.2 a v0)) [7, 8, 9, 10, 11, 12, 13, 14] rfl) (ci := 3) (q0 := 0) rfl rfl, pcR_pre (hP.sub (ws' := (lettersC G.2 a v0)) [7, 8, 9, 10, 11, 12, 13, 14] rfl) hamb⟩ rfl rfl hl.1 rfl (lv_room (Nat.le_of_ble_eq_true rfl)) dX0_writeLetter_18 ⟨Nat.zero_le _, Nat.zero_le _⟩) (fun r18 hw => ?_)
      subst hw
      refine lv_if_ne (tgt := 26) hx hb dX0_writeLetter_21 (by decide) (fun c => ?_) (fun c => ?_)
      · have hf := it_2 hf c
        exact J26 n0 v0 p1 p2 p3 s.heap [] ls hP hD hS (lv_sub hl [0, 1, 2, 3] rfl) hf
      · have hf := it_1 hf c
        refine lv_iconst (v := (-1)) hx hb dX0_writeLetter_24 (by decide) ?_
        exact W.iret (v := (-1)) hx hb hr (fun t ht hW => ⟨⟨(-1), v0, rfl, hf0.trans hf.symm, by rw [ht]; exact hP, hD⟩, hS.F ht⟩) hS.2.2 dX0_writeLetter_25
set_option maxHeartbeats 4000000 in
set_option maxRecDepth 100000 in
theorem ok_X0_setThatWouldGo (l : Launch) (G : Gt) (a : Nat → Nat) (n0 : Nat) (v0 : DV) (hne : f_X0_setThatWouldGo n0 v0 ≠ none) : Met l yX0_setThatWouldGo wsX0_setThatWouldGo ({ frames := 2, cells := 0, slots := 0, locals := 65 } : Room) (pcR G [.ref (a 0)] (deskC G.2 a v0)) (vp_Sl (fun r => f_X0_setThatWouldGo n0 v0 = some r)) 0 0 (fun _ => False) := by
  refine Met.ofW (cc := cX0_setThatWouldGo) (maxL := 5) (ret := (some .long)) (by decide) rfl ?_
  intro p e s m args below meth c s₁ B hml hv
  obtain ⟨rfl, hP, hamb⟩ := hv
  have hx := B.exec
  have hb := B.bytes
  have hr := B.returns
  have hts := atoms_spec (ws := wsX0_setThatWouldGo) B.pre
  have hown : s.vm.findClass RX0 = some m.cls := findClass_of_methodNamed B.named
  have hlocks := B.notSynchronized
  have hK := hamb.1
  obtain ⟨res, hf0⟩ : ∃ res, f_X0_setThatWouldGo n0 v0 = res := ⟨_, rfl⟩
  have hne : res ≠ none := hf0 ▸ hne
  have hf := hf0
  rw [f_X0_setThatWouldGo] at hf
  have hinX0 : ∀ w ∈ u_ws RX0 TX0 4, w ∈ wsX0_setThatWouldGo := by decide +kernel
  have hinX1 : ∀ w ∈ u_ws RX1 TX1 4, w ∈ wsX0_setThatWouldGo := by decide +kernel
  have hinX3 : ∀ w ∈ u_ws RX3 TX3 8, w ∈ wsX0_setThatWouldGo := by decide +kernel
  have lk25 := hts (.fieldLink RX0 25 "MoodDrawers$Desk" "letters" "LMoodDrawers$Letters;") (by decide +kernel)
  have lk54 := hts (.fieldLink RX0 54 "MoodDrawers$Letters" "written" "I") (by decide +kernel)
  have lk18 := hts (.fieldLink RX0 18 "MoodDrawers$Desk" "drawers" "LMoodDrawers$Drawers;") (by decide +kernel)
  have lk83 := hts (.fieldLink RX0 83 "MoodDrawers$Drawers" "locked" "[I") (by decide +kernel)
  have hl := lv_entry ([.ref (a 0)]) (n := 5) (Nat.le_of_ble_eq_true rfl)
  rw [lg_entry_eq]
  generalize (lg_sl ([.ref (a 0)]) ++ List.replicate (5 - (lg_sl ([.ref (a 0)])).length) Slot.unset).toArray = ls at hl ⊢
  have hl : lv_has ls 5 [(0, .ref (a 0))] := hl
  have L13 : ∀ (k4 : DV → Int64 → Int32 → Option (Int64)) (hk4 : ∀ (v : DV) (x1 : Int64) (x3 : Int32) (ls : Array Slot), va_P G.1 vwCl (deskC G.2 a v) s.heap → lv_has ls 5 [(0, .ref (a 0)), (1, .long x1), (3, .int x3)] → k4 v x1 x3 = res → W p l e (headSpec wsX0_setThatWouldGo ({ frames := 2, cells := 0, slots := 0, locals := 65 } : Room)).room s m ([.ref (a 0)] : List Value).toArray below meth c s.heap [] 0 0 (MQ below (vp_Sl (fun r => f_X0_setThatWouldGo n0 v0 = some r)) ([.ref (a 0)] : List Value).toArray s 0 0 (fun _ => False)) (F0 m 4 ls [])) (n : Nat) (v : DV) (x1 : Int64) (x3 : Int32) (x4 : Int32) (ls : Array Slot), va_P G.1 vwCl (deskC G.2 a v) s.heap → lv_has ls 5 [(0, .ref (a 0)), (1, .long x1), (3, .int x3), (4, .int x4)] → f_X0_setThatWouldGo_L13 k4 n v x1 x3 x4 = res → W p l e (headSpec wsX0_setThatWouldGo ({ frames := 2, cells := 0, slots := 0, locals := 65 } : Room)).room s m ([.ref (a 0)] : List Value).toArray below meth c s.heap [] 0 0 (MQ below (vp_Sl (fun r => f_X0_setThatWouldGo n0 v0 = some r)) ([.ref (a 0)] : List Value).toArray s 0 0 (fun _ => False)) (F0 m 13 ls []) := by
    intro k4 hk4 n
    induction n with
    | zero => intro v x1 x3 x4 ls hP hl hf; exact (none_1 hf hne).elim
    | succ n ih =>
      intro v x1 x3 x4 ls hP hl hf
      rw [f_X0_setThatWouldGo_L13] at hf
      refine lv_iload hx hb dX0_setThatWouldGo_13 (lv_at hl 3 rfl) ?_
      refine lv_aload_n hx hb dX0_setThatWouldGo_15 rfl (lv_at hl 0 rfl) ?_
      refine va_get (D := G.1) (ci := 0) (v := .ref (a 7)) (C := RX0) (T := TX0) (N := 4) hx hb hts hinX0 hown hK hP 0 rfl rfl 3 (by decide) lk25 (fun _ h9 => h9) rfl dX0_setThatWouldGo_16 ?_
      refine va_get (D := G.1) (ci := 3) (v := .int (v 1 0)) (C := RX3) (T := TX3) (N := 8) hx hb hts hinX3 hown hK hP 7 rfl rfl 0 (by decide) lk54 (fun _ h9 => h9) rfl dX0_setThatWouldGo_19 ?_
      refine lv_icmp_ge (tgt := 77) hx hb dX0_setThatWouldGo_22 (by decide) (fun c => ?_) (fun c => ?_)
      · have hf := it_1 hf c
        refine lv_iinc (v := (x3 + 1)) (lv' := [(3, .int (x3 + 1)), (0, .ref (a 0)), (1, .long x1), (4, .int x4)]) hx hb dX0_setThatWouldGo_77 hl (k := 2) rfl rfl (by decide) rfl (fun ls hl => ?_)
        refine lv_goto (tgt := 4) hx hb dX0_setThatWouldGo_80 (by decide) ?_
        exact hk4 v x1 (x3 + 1) ls hP (lv_sub hl [1, 2, 0] rfl) hf
      · have hf := it_2 hf c
        refine lv_aload_n hx hb dX0_setThatWouldGo_25 rfl (lv_at hl 0 rfl) ?_
        refine va_get (D := G.1) (ci := 0) (v := .ref (a 2)) (C := RX0) (T := TX0) (N := 4) hx hb hts hinX0 hown hK hP 0 rfl rfl 2 (by decide) lk18 (fun _ h9 => h9) rfl dX0_setThatWouldGo_26 ?_
        refine va_get (D := G.1) (ci := 1) (v := .ref (a 4)) (C := RX1) (T := TX1) (N := 4) hx hb hts hinX1 hown hK hP 2 rfl rfl 1 (by decide) lk83 (fun _ h9 => h9) rfl dX0_setThatWouldGo_29 ?_
        refine lv_iload_n hx hb dX0_setThatWouldGo_32 rfl (lv_at hl 2 rfl) ?_
        obtain ⟨hi, hf⟩ := ck_1 hf hne
        refine va_iald (f := (v 4)) hx hb hK hP 4 0 rfl rfl (ixb_1 hi) dX0_setThatWouldGo_33 ?_
        refine lv_if_ne (tgt := 71) hx hb dX0_setThatWouldGo_34 (by decide) (fun c => ?_) (fun c => ?_)
        · have hf := it_2 hf c
          refine lv_iinc (v := (x4 + 1)) (lv' := [(4, .int (x4 + 1)), (0, .ref (a 0)), (1, .long x1), (3, .int x3)]) hx hb dX0_setThatWouldGo_71 hl (k := 3) rfl rfl (by decide) rfl (fun ls hl => ?_)
          refine lv_goto (tgt := 13) hx hb dX0_setThatWouldGo_74 (by decide) ?_
          exact ih v x1 x3 (x4 + 1) ls hP (lv_sub hl [1, 2, 3, 0] rfl) hf
        · have hf := it_1 hf c
          refine lv_aload_n hx hb dX0_setThatWouldGo_37 rfl (lv_at hl 0 rfl) ?_
          refine va_get (D := G.1) (ci := 0) (v := .ref (a 7)) (C := RX0) (T := TX0) (N := 4) hx hb hts hinX0 hown hK hP 0 rfl rfl 3 (by decide) lk25 (fun _ h9 => h9) rfl dX0_setThatWouldGo_38 ?_
          refine lv_iload hx hb dX0_setThatWouldGo_41 (lv_at hl 3 rfl) ?_
          refine lv_iload_n hx hb dX0_setThatWouldGo_43 rfl (lv_at hl 2 rfl) ?_
          have hn := bd1_1 hf hne
          refine vp_callSi (W.runV (As := [.int x4, .int x3]) (rest := []) ⟨hx, hb, hml, hown, hts⟩ (ok_X3_lies l G a v x4 x3 hn) (cwV 2 hts gX0_setThatWouldGo_X3_lies rfl rfl rfl (by decide +kernel) ⟨Nat.le_of_ble_eq_true rfl, Nat.le_of_ble_eq_true rfl⟩) ⟨pcR_blind, va_recv hK (hP.sub (ws' := (lettersC G.2 a v)) [7, 8, 9, 10, 11, 12, 13, 14] rfl) (ci := 3) (q0 := 0) rfl rfl, pcR_pre (hP.sub (ws' := (lettersC G.2 a v)) [7, 8, 9, 10, 11, 12, 13, 14] rfl) hamb⟩ rfl rfl hl.1 rfl (lv_room (Nat.le_of_ble_eq_true rfl)) dX0_setThatWouldGo_44 ⟨Nat.zero_le _, Nat.zero_le _⟩) (fun r44 hw => ?_)
          have hf := bd1_2 hf hw
          refine lv_if_eq (tgt := 71) hx hb dX0_setThatWouldGo_47 (by decide) (fun c => ?_) (fun c => ?_)
          · have hf := it_1 hf c
            refine lv_iinc (v := (x4 + 1)) (lv' := [(4, .int (x4 + 1)), (0, .ref (a 0)), (1, .long x1), (3, .int x3)]) hx hb dX0_setThatWouldGo_71 hl (k := 3) rfl rfl (by decide) rfl (fun ls hl => ?_)
            refine lv_goto (tgt := 13) hx hb dX0_setThatWouldGo_74 (by decide) ?_
            exact ih v x1 x3 (x4 + 1) ls hP (lv_sub hl [1, 2, 3, 0] rfl) hf
          · have hf := it_2 hf c
            refine lv_aload_n hx hb dX0_setThatWouldGo_50 rfl (lv_at hl 0 rfl) ?_
            refine vp_callSi (W.runV (As := []) (rest := []) ⟨hx, hb, hml, hown, hts⟩ (ok_X0_today l G a v) (cwV 0 hts gX0_setThatWouldGo_X0_today rfl rfl rfl (by decide +kernel) ⟨Nat.le_of_ble_eq_true rfl, Nat.le_of_ble_eq_true rfl⟩) ⟨pcR_blind, va_recv hK hP (ci := 0) (q0 := 0) rfl rfl, pcR_pre hP hamb⟩ rfl rfl hl.1 rfl (lv_room (Nat.le_of_ble_eq_true rfl)) dX0_setThatWouldGo_51 ⟨Nat.zero_le _, Nat.zero_le _⟩) (fun r51 hw => ?_)
            subst hw
            refine lv_aload_n hx hb dX0_setThatWouldGo_54 rfl (lv_at hl 0 rfl) ?_
            refine lv_iload hx hb dX0_setThatWouldGo_55 (lv_at hl 3 rfl) ?_
            refine lv_iload_n hx hb dX0_setThatWouldGo_57 rfl (lv_at hl 2 rfl) ?_
            have hn := bd1_1 hf hne
            refine vp_callSi (W.runV (As := [.int x4, .int x3]) (rest := [.int (f_X0_today v)]) ⟨hx, hb, hml, hown, hts⟩ (ok_X0_readyDay l G a v x4 x3 hn) (cwV 2 hts gX0_setThatWouldGo_X0_readyDay rfl rfl rfl (by decide +kernel) ⟨Nat.le_of_ble_eq_true rfl, Nat.le_of_ble_eq_true rfl⟩) ⟨pcR_blind, va_recv hK hP (ci := 0) (q0 := 0) rfl rfl, pcR_pre hP hamb⟩ rfl rfl hl.1 rfl (lv_room (Nat.le_of_ble_eq_true rfl)) dX0_setThatWouldGo_58 ⟨Nat.zero_le _, Nat.zero_le _⟩) (fun r58 hw => ?_)
            have hf := bd1_2 hf hw
            refine lv_icmp_lt (tgt := 71) hx hb dX0_setThatWouldGo_61 (by decide) (fun c => ?_) (fun c => ?_)
            · have hf := it_1 hf c
              refine lv_iinc (v := (x4 + 1)) (lv' := [(4, .int (x4 + 1)), (0, .ref (a 0)), (1, .long x1), (3, .int x3)]) hx hb dX0_setThatWouldGo_71 hl (k := 3) rfl rfl (by decide) rfl (fun ls hl => ?_)
              refine lv_goto (tgt := 13) hx hb dX0_setThatWouldGo_74 (by decide) ?_
              exact ih v x1 x3 (x4 + 1) ls hP (lv_sub hl [1, 2, 3, 0] rfl) hf
            · have hf := it_2 hf c
              refine lv_lload_n hx hb dX0_setThatWouldGo_64 rfl (lv_at hl 1 rfl) ?_
              refine lv_lconst (v := 1) hx hb dX0_setThatWouldGo_65 (by decide) ?_
              refine lv_iload hx hb dX0_setThatWouldGo_66 (lv_at hl 3 rfl) ?_
              refine lv_lshl hx hb dX0_setThatWouldGo_68 rfl ?_
              refine lv_lor hx hb dX0_setThatWouldGo_69 ?_
              refine lv_lstore_n (lv' := [(1, .long (x1 ||| (1 <<< (Int32.toInt64 x4 &&& 63)))), (0, .ref (a 0)), (3, .int x3), (4, .int x4)]) hx hb dX0_setThatWouldGo_70 rfl hl (by decide) rfl (fun ls hl => ?_)
              refine lv_iinc (v := (x4 + 1)) (lv' := [(4, .int (x4 + 1)), (1, .long (x1 ||| (1 <<< (Int32.toInt64 x4 &&& 63)))), (0, .ref (a 0)), (3, .int x3)]) hx hb dX0_setThatWouldGo_71 hl (k := 3) rfl rfl (by decide) rfl (fun ls hl => ?_)
              refine lv_goto (tgt := 13) hx hb dX0_setThatWouldGo_74 (by decide) ?_
              exact ih v (x1 ||| (1 <<< (Int32.toInt64 x4 &&& 63))) x3 (x4 + 1) ls hP (lv_sub hl [2, 1, 3, 0] rfl) hf
  have L4 : ∀ (n : Nat) (v : DV) (x1 : Int64) (x3 : Int32) (ls : Array Slot), va_P G.1 vwCl (deskC G.2 a v) s.heap → lv_has ls 5 [(0, .ref (a 0)), (1, .long x1), (3, .int x3)] → f_X0_setThatWouldGo_L4 n v x1 x3 = res → W p l e (headSpec wsX0_setThatWouldGo ({ frames := 2, cells := 0, slots := 0, locals := 65 } : Room)).room s m ([.ref (a 0)] : List Value).toArray below meth c s.heap [] 0 0 (MQ below (vp_Sl (fun r => f_X0_setThatWouldGo n0 v0 = some r)) ([.ref (a 0)] : List Value).toArray s 0 0 (fun _ => False)) (F0 m 4 ls []) := by
    intro n
    induction n with
    | zero => intro v x1 x3 ls hP hl hf; exact (none_1 hf hne).elim
    | succ n ih =>
      intro v x1 x3 ls hP hl hf
      rw [f_X0_setThatWouldGo_L4] at hf
      refine lv_iload_n hx hb dX0_setThatWouldGo_4 rfl (lv_at hl 2 rfl) ?_
      refine lv_bipush (v := 6) hx hb dX0_setThatWouldGo_5 (by decide) ?_
      refine lv_icmp_ge (tgt := 83) hx hb dX0_setThatWouldGo_7 (by decide) (fun c => ?_) (fun c => ?_)
      · have hf := it_1 hf c
        refine lv_lload_n hx hb dX0_setThatWouldGo_83 rfl (lv_at hl 1 rfl) ?_
        exact W.lret (v := x1) hx hb hr (fun t ht hW => ⟨x1, rfl, hf0.trans hf.symm, ht⟩) (fun _ hq => absurd hq List.not_mem_nil) dX0_setThatWouldGo_84
      · have hf := it_2 hf c
        refine lv_iconst (v := 0) hx hb dX0_setThatWouldGo_10 (by decide) ?_
        refine lv_istore (lv' := [(4, .int 0), (0, .ref (a 0)), (1, .long x1), (3, .int x3)]) hx hb dX0_setThatWouldGo_11 hl (by decide) rfl (fun ls hl => ?_)
        exact L13 (fun v x1 x3 => f_X0_setThatWouldGo_L4 n v x1 x3) ih n v x1 x3 0 ls hP (lv_sub hl [1, 2, 3, 0] rfl) hf
  refine lv_lconst (v := 0) hx hb dX0_setThatWouldGo_0 (by decide) ?_
  refine lv_lstore_n (lv' := [(1, .long 0), (0, .ref (a 0))]) hx hb dX0_setThatWouldGo_1 rfl hl (by decide) rfl (fun ls hl => ?_)
  refine lv_iconst (v := 0) hx hb dX0_setThatWouldGo_2 (by decide) ?_
  refine lv_istore_n (lv' := [(3, .int 0), (1, .long 0), (0, .ref (a 0))]) hx hb dX0_setThatWouldGo_3 rfl hl (by decide) rfl (fun ls hl => ?_)
  exact L4 n0 v0 0 0 ls hP (lv_sub hl [2, 1, 0] rfl) hf
set_option maxHeartbeats 4000000 in
set_option maxRecDepth 100000 in
theorem ok_X1_turnKeysBy (l : Launch) (G : Gt) (a : Nat → Nat) (sz : Nat) (n0 : Nat) (v0 : DV) (p1 : Int32) (hne : f_X1_turnKeysBy n0 v0 p1 ≠ none) : Met l yX1_turnKeysBy wsX1_turnKeysBy ({ frames := 0, cells := 0, slots := 0, locals := 0 } : Room) (pcW G [.ref (a 2), .int p1] (drawersC G.2 a v0) sz) (va_Qv (fun (u : DV) => f_X1_turnKeysBy n0 v0 p1 = some u) (fun u t => atW G (drawersC G.2 a u) (va_A (drawersC G.2 a v0) sz) t) (va_A (drawersC G.2 a v0) sz)) 0 0 (va_A (drawersC G.2 a v0) sz) := by
  refine Met.ofW (cc := cX1_turnKeysBy) (maxL := 3) (ret := none) (by decide) rfl ?_
  intro p e s m args below meth c s₁ B hml hv
  obtain ⟨rfl, hsz, hP, hD0, hamb⟩ := hv
  have hx := B.exec
  have hb := B.bytes
  have hr := B.returns
  have hts := atoms_spec (ws := wsX1_turnKeysBy) B.pre
  have hown : s.vm.findClass RX1 = some m.cls := findClass_of_methodNamed B.named
  have hlocks := B.notSynchronized
  have hK := hamb.1
  subst hsz
  have hD := hD0.self (sz := s.heap.size)
  generalize hAe : va_A (drawersC G.2 a v0) s.heap.size = A at hD ⊢
  have hA : ∀ q : Nat, s.heap.size ≤ q → A q := fun q h => by rw [← hAe]; exact Or.inr h
  have hS : va_S A s.heap s.heap [] := va_S.rf
  obtain ⟨res, hf0⟩ : ∃ res, f_X1_turnKeysBy n0 v0 p1 = res := ⟨_, rfl⟩
  have hne : res ≠ none := hf0 ▸ hne
  have hf := hf0
  rw [f_X1_turnKeysBy] at hf
  have hinX1 : ∀ w ∈ u_ws RX1 TX1 4, w ∈ wsX1_turnKeysBy := by decide +kernel
  have lk18 := hts (.fieldLink RX1 18 "MoodDrawers$Drawers" "unlockHour" "[I") (by decide +kernel)
  have lk21 := hts (.fieldLink RX1 21 "MoodDrawers$Drawers" "lockHour" "[I") (by decide +kernel)
  have lk15 := hts (.fieldLink RX1 15 "MoodDrawers$Drawers" "locked" "[I") (by decide +kernel)
  have hl := lv_entry ([.ref (a 2), .int p1]) (n := 3) (Nat.le_of_ble_eq_true rfl)
  rw [lg_entry_eq]
  generalize (lg_sl ([.ref (a 2), .int p1]) ++ List.replicate (3 - (lg_sl ([.ref (a 2), .int p1])).length) Slot.unset).toArray = ls at hl ⊢
  have hl : lv_has ls 3 [(0, .ref (a 2)), (1, .int p1)] := hl
  have J25 : ∀ (k2 : DV → Int32 → Int32 → Option (DV)) (hk2 : ∀ (v : DV) (x1 : Int32) (x2 : Int32) (H : Heap) (locs : List Loc) (ls : Array Slot), va_P G.1 vwCl (drawersC G.2 a v) H → va_D A (drawersC G.2 a v) → va_S A s.heap H locs → lv_has ls 3 [(0, .ref (a 2)), (1, .int x1), (2, .int x2)] → k2 v x1 x2 = res → W p l e (headSpec wsX1_turnKeysBy ({ frames := 0, cells := 0, slots := 0, locals := 0 } : Room)).room s m ([.ref (a 2), .int p1] : List Value).toArray below meth c H locs 0 0 (MQ below (va_Qv (fun (u : DV) => f_X1_turnKeysBy n0 v0 p1 = some u) (fun u t => atW G (drawersC G.2 a u) A t) A) ([.ref (a 2), .int p1] : List Value).toArray s 0 0 A) (F0 m 2 ls [])) (n : Nat) (v : DV) (x1 : Int32) (x2 : Int32) (H : Heap) (locs : List Loc) (ls : Array Slot), va_P G.1 vwCl (drawersC G.2 a v) H → va_D A (drawersC G.2 a v) → va_S A s.heap H locs → lv_has ls 3 [(0, .ref (a 2)), (1, .int x1), (2, .int x2)] → f_X1_turnKeysBy_J25 k2 n v x1 x2 = res → W p l e (headSpec wsX1_turnKeysBy ({ frames := 0, cells := 0, slots := 0, locals := 0 } : Room)).room s m ([.ref (a 2), .int p1] : List Value).toArray below meth c H locs 0 0 (MQ below (va_Qv (fun (u : DV) => f_X1_turnKeysBy n0 v0 p1 = some u) (fun u t => atW G (drawersC G.2 a u) A t) A) ([.ref (a 2), .int p1] : List Value).toArray s 0 0 A) (F0 m 25 ls []) := by
    intro k2 hk2 n v x1 x2 H locs ls hP hD hS hl hf
    rw [f_X1_turnKeysBy_J25] at hf
    refine lv_aload_n hx hb dX1_turnKeysBy_25 rfl (lv_at hl 0 rfl) ?_
    refine va_get (D := G.1) (ci := 1) (v := .ref (a 6)) (C := RX1) (T := TX1) (N := 4) hx hb hts hinX1 hown hK hP 0 rfl rfl 3 (by decide) lk21 (fun _ h9 => h9) rfl dX1_turnKeysBy_26 ?_
    refine lv_iload_n hx hb dX1_turnKeysBy_29 rfl (lv_at hl 2 rfl) ?_
    obtain ⟨hi, hf⟩ := ck_1 hf hne
    refine va_iald (f := (v 6)) hx hb hK hP 4 0 rfl rfl (ixb_1 hi) dX1_turnKeysBy_30 ?_
    refine lv_iload_n hx hb dX1_turnKeysBy_31 rfl (lv_at hl 1 rfl) ?_
    refine lv_icmp_ne (tgt := 42) hx hb dX1_turnKeysBy_32 (by decide) (fun c => ?_) (fun c => ?_)
    · have hf := it_2 hf c
      refine lv_iinc (v := (x2 + 1)) (lv' := [(2, .int (x2 + 1)), (0, .ref (a 2)), (1, .int x1)]) hx hb dX1_turnKeysBy_42 hl (k := 2) rfl rfl (by decide) rfl (fun ls hl => ?_)
      refine lv_goto (tgt := 2) hx hb dX1_turnKeysBy_45 (by decide) ?_
      exact hk2 v x1 (x2 + 1) H locs ls hP hD hS (lv_sub hl [1, 2, 0] rfl) hf
    · have hf := it_1 hf c
      refine lv_aload_n hx hb dX1_turnKeysBy_35 rfl (lv_at hl 0 rfl) ?_
      refine va_get (D := G.1) (ci := 1) (v := .ref (a 4)) (C := RX1) (T := TX1) (N := 4) hx hb hts hinX1 hown hK hP 0 rfl rfl 1 (by decide) lk15 (fun _ h9 => h9) rfl dX1_turnKeysBy_36 ?_
      refine lv_iload_n hx hb dX1_turnKeysBy_39 rfl (lv_at hl 2 rfl) ?_
      refine lv_iconst (v := 1) hx hb dX1_turnKeysBy_40 (by decide) ?_
      obtain ⟨hi, hf⟩ := ck_1 hf hne
      refine va_iast (f := (v 4)) hx hb hK hP hD hS 2 0 rfl rfl (ixb_1 hi) dX1_turnKeysBy_41 (fun H locs hP hD hS => ?_)
      have hP : va_P G.1 vwCl (drawersC G.2 a (vs v 4 (upd (v 4) (Int32.toNatClampNeg x2) 1))) H := hP
      have hD : va_D A (drawersC G.2 a (vs v 4 (upd (v 4) (Int32.toNatClampNeg x2) 1))) := hD
      refine lv_iinc (v := (x2 + 1)) (lv' := [(2, .int (x2 + 1)), (0, .ref (a 2)), (1, .int x1)]) hx hb dX1_turnKeysBy_42 hl (k := 2) rfl rfl (by decide) rfl (fun ls hl => ?_)
      refine lv_goto (tgt := 2) hx hb dX1_turnKeysBy_45 (by decide) ?_
      exact hk2 (vs v 4 (upd (v 4) (Int32.toNatClampNeg x2) 1)) x1 (x2 + 1) H locs ls hP hD hS (lv_sub hl [1, 2, 0] rfl) hf
  have L2 : ∀ (n : Nat) (v : DV) (x1 : Int32) (x2 : Int32) (H : Heap) (locs : List Loc) (ls : Array Slot), va_P G.1 vwCl (drawersC G.2 a v) H → va_D A (drawersC G.2 a v) → va_S A s.heap H locs → lv_has ls 3 [(0, .ref (a 2)), (1, .int x1), (2, .int x2)] → f_X1_turnKeysBy_L2 n v x1 x2 = res → W p l e (headSpec wsX1_turnKeysBy ({ frames := 0, cells := 0, slots := 0, locals := 0 } : Room)).room s m ([.ref (a 2), .int p1] : List Value).toArray below meth c H locs 0 0 (MQ below (va_Qv (fun (u : DV) => f_X1_turnKeysBy n0 v0 p1 = some u) (fun u t => atW G (drawersC G.2 a u) A t) A) ([.ref (a 2), .int p1] : List Value).toArray s 0 0 A) (F0 m 2 ls []) := by
    intro n
    induction n with
    | zero => intro v x1 x2 H locs ls hP hD hS hl hf; exact (none_1 hf hne).elim
    | succ n ih =>
      intro v x1 x2 H locs ls hP hD hS hl hf
      rw [f_X1_turnKeysBy_L2] at hf
      refine lv_iload_n hx hb dX1_turnKeysBy_2 rfl (lv_at hl 2 rfl) ?_
      refine lv_bipush (v := 6) hx hb dX1_turnKeysBy_3 (by decide) ?_
      refine lv_icmp_ge (tgt := 48) hx hb dX1_turnKeysBy_5 (by decide) (fun c => ?_) (fun c => ?_)
      · have hf := it_1 hf c
        exact W.vret hx hb hr (fun t ht hW => ⟨⟨v, rfl, hf0.trans hf.symm, by rw [ht]; exact hP, hD⟩, hS.F ht⟩) hS.2.2 dX1_turnKeysBy_48
      · have hf := it_2 hf c
        refine lv_aload_n hx hb dX1_turnKeysBy_8 rfl (lv_at hl 0 rfl) ?_
        refine va_get (D := G.1) (ci := 1) (v := .ref (a 5)) (C := RX1) (T := TX1) (N := 4) hx hb hts hinX1 hown hK hP 0 rfl rfl 2 (by decide) lk18 (fun _ h9 => h9) rfl dX1_turnKeysBy_9 ?_
        refine lv_iload_n hx hb dX1_turnKeysBy_12 rfl (lv_at hl 2 rfl) ?_
        obtain ⟨hi, hf⟩ := ck_1 hf hne
        refine va_iald (f := (v 5)) hx hb hK hP 3 0 rfl rfl (ixb_1 hi) dX1_turnKeysBy_13 ?_
        refine lv_iload_n hx hb dX1_turnKeysBy_14 rfl (lv_at hl 1 rfl) ?_
        refine lv_icmp_ne (tgt := 25) hx hb dX1_turnKeysBy_15 (by decide) (fun c => ?_) (fun c => ?_)
        · have hf := it_2 hf c
          exact J25 (fun v x1 x2 => f_X1_turnKeysBy_L2 n v x1 x2) ih n v x1 x2 H locs ls hP hD hS (lv_sub hl [0, 1, 2] rfl) hf
        · have hf := it_1 hf c
          refine lv_aload_n hx hb dX1_turnKeysBy_18 rfl (lv_at hl 0 rfl) ?_
          refine va_get (D := G.1) (ci := 1) (v := .ref (a 4)) (C := RX1) (T := TX1) (N := 4) hx hb hts hinX1 hown hK hP 0 rfl rfl 1 (by decide) lk15 (fun _ h9 => h9) rfl dX1_turnKeysBy_19 ?_
          refine lv_iload_n hx hb dX1_turnKeysBy_22 rfl (lv_at hl 2 rfl) ?_
          refine lv_iconst (v := 0) hx hb dX1_turnKeysBy_23 (by decide) ?_
          obtain ⟨hi, hf⟩ := ck_1 hf hne
          refine va_iast (f := (v 4)) hx hb hK hP hD hS 2 0 rfl rfl (ixb_1 hi) dX1_turnKeysBy_24 (fun H locs hP hD hS => ?_)
          have hP : va_P G.1 vwCl (drawersC G.2 a (vs v 4 (upd (v 4) (Int32.toNatClampNeg x2) 0))) H := hP
          have hD : va_D A (drawersC G.2 a (vs v 4 (upd (v 4) (Int32.toNatClampNeg x2) 0))) := hD
          exact J25 (fun v x1 x2 => f_X1_turnKeysBy_L2 n v x1 x2) ih n (vs v 4 (upd (v 4) (Int32.toNatClampNeg x2) 0)) x1 x2 H locs ls hP hD hS (lv_sub hl [0, 1, 2] rfl) hf
  refine lv_iconst (v := 0) hx hb dX1_turnKeysBy_0 (by decide) ?_
  refine lv_istore_n (lv' := [(2, .int 0), (0, .ref (a 2)), (1, .int p1)]) hx hb dX1_turnKeysBy_1 rfl hl (by decide) rfl (fun ls hl => ?_)
  exact L2 n0 v0 p1 0 s.heap [] ls hP hD hS (lv_sub hl [1, 2, 0] rfl) hf
set_option maxHeartbeats 4000000 in
set_option maxRecDepth 100000 in
theorem ok_X0_passHours (l : Launch) (G : Gt) (a : Nat → Nat) (sz : Nat) (n0 : Nat) (v0 : DV) (p1 : Int32) (hne : f_X0_passHours n0 v0 p1 ≠ none) : Met l yX0_passHours wsX0_passHours ({ frames := 3, cells := 0, slots := 0, locals := 89 } : Room) (pcW G [.ref (a 0), .int p1] (deskC G.2 a v0) sz) (va_Qi (fun r (u : DV) => f_X0_passHours n0 v0 p1 = some (r, u)) (fun u t => atW G (deskC G.2 a u) (va_A (deskC G.2 a v0) sz) t) (va_A (deskC G.2 a v0) sz)) 0 0 (va_A (deskC G.2 a v0) sz) := by
  refine Met.ofW (cc := cX0_passHours) (maxL := 4) (ret := (some .int)) (by decide) rfl ?_
  intro p e s m args below meth c s₁ B hml hv
  obtain ⟨rfl, hsz, hP, hD0, hamb⟩ := hv
  have hx := B.exec
  have hb := B.bytes
  have hr := B.returns
  have hts := atoms_spec (ws := wsX0_passHours) B.pre
  have hown : s.vm.findClass RX0 = some m.cls := findClass_of_methodNamed B.named
  have hlocks := B.notSynchronized
  have hK := hamb.1
  subst hsz
  have hD := hD0.self (sz := s.heap.size)
  generalize hAe : va_A (deskC G.2 a v0) s.heap.size = A at hD ⊢
  have hA : ∀ q : Nat, s.heap.size ≤ q → A q := fun q h => by rw [← hAe]; exact Or.inr h
  have hS : va_S A s.heap s.heap [] := va_S.rf
  obtain ⟨res, hf0⟩ : ∃ res, f_X0_passHours n0 v0 p1 = res := ⟨_, rfl⟩
  have hne : res ≠ none := hf0 ▸ hne
  have hf := hf0
  rw [f_X0_passHours] at hf
  have hinX0 : ∀ w ∈ u_ws RX0 TX0 4, w ∈ wsX0_passHours := by decide +kernel
  have lk33 := hts (.fieldLink RX0 33 "MoodDrawers$Desk" "now" "I") (by decide +kernel)
  have lk18 := hts (.fieldLink RX0 18 "MoodDrawers$Desk" "drawers" "LMoodDrawers$Drawers;") (by decide +kernel)
  have lk9 := hts (.fieldLink RX0 9 "MoodDrawers$Desk" "settings" "[I") (by decide +kernel)
  have hl := lv_entry ([.ref (a 0), .int p1]) (n := 4) (Nat.le_of_ble_eq_true rfl)
  rw [lg_entry_eq]
  generalize (lg_sl ([.ref (a 0), .int p1]) ++ List.replicate (4 - (lg_sl ([.ref (a 0), .int p1])).length) Slot.unset).toArray = ls at hl ⊢
  have hl : lv_has ls 4 [(0, .ref (a 0)), (1, .int p1)] := hl
  have L37 : ∀ (n : Nat) (v : DV) (x1 : Int32) (x2 : Int32) (x3 : Int32) (H : Heap) (locs : List Loc) (ls : Array Slot), va_P G.1 vwCl (deskC G.2 a v) H → va_D A (deskC G.2 a v) → va_S A s.heap H locs → lv_has ls 4 [(0, .ref (a 0)), (1, .int x1), (2, .int x2), (3, .int x3)] → f_X0_passHours_L37 n v x1 x2 x3 = res → W p l e (headSpec wsX0_passHours ({ frames := 3, cells := 0, slots := 0, locals := 89 } : Room)).room s m ([.ref (a 0), .int p1] : List Value).toArray below meth c H locs 0 0 (MQ below (va_Qi (fun r (u : DV) => f_X0_passHours n0 v0 p1 = some (r, u)) (fun u t => atW G (deskC G.2 a u) A t) A) ([.ref (a 0), .int p1] : List Value).toArray s 0 0 A) (F0 m 37 ls []) := by
    intro n
    induction n with
    | zero => intro v x1 x2 x3 H locs ls hP hD hS hl hf; exact (none_1 hf hne).elim
    | succ n ih =>
      intro v x1 x2 x3 H locs ls hP hD hS hl hf
      rw [f_X0_passHours_L37] at hf
      refine lv_iload_n hx hb dX0_passHours_37 rfl (lv_at hl 3 rfl) ?_
      refine lv_iload_n hx hb dX0_passHours_38 rfl (lv_at hl 1 rfl) ?_
      refine lv_icmp_ge (tgt := 93) hx hb dX0_passHours_39 (by decide) (fun c => ?_) (fun c => ?_)
      · have hf := it_1 hf c
        refine lv_iload_n hx hb dX0_passHours_93 rfl (lv_at hl 2 rfl) ?_
        exact W.iret (v := x2) hx hb hr (fun t ht hW => ⟨⟨x2, v, rfl, hf0.trans hf.symm, by rw [ht]; exact hP, hD⟩, hS.F ht⟩) hS.2.2 dX0_passHours_94
      · have hf := it_2 hf c
        refine lv_aload_n hx hb dX0_passHours_42 rfl (lv_at hl 0 rfl) ?_
        refine va_get (D := G.1) (ci := 0) (v := .ref (a 2)) (C := RX0) (T := TX0) (N := 4) hx hb hts hinX0 hown hK hP 0 rfl rfl 2 (by decide) lk18 (fun _ h9 => h9) rfl dX0_passHours_43 ?_
        refine lv_aload_n hx hb dX0_passHours_46 rfl (lv_at hl 0 rfl) ?_
        refine vp_callSi (W.runV (As := []) (rest := [.ref (a 2)]) ⟨hx, hb, hml, hown, hts⟩ (ok_X0_hourOfDay l G a v) (cwV 0 hts gX0_passHours_X0_hourOfDay rfl rfl rfl (by decide +kernel) ⟨Nat.le_of_ble_eq_true rfl, Nat.le_of_ble_eq_true rfl⟩) ⟨pcR_blind, va_recv hK hP (ci := 0) (q0 := 0) rfl rfl, pcR_pre hP hamb⟩ rfl rfl hl.1 rfl (lv_room (Nat.le_of_ble_eq_true rfl)) dX0_passHours_47 ⟨Nat.zero_le _, Nat.zero_le _⟩) (fun r47 hw => ?_)
        subst hw
        have hn := bd1_1 hf hne
        refine cwv (va_runV (As := [.int (f_X0_hourOfDay v)]) (rest := []) ⟨hx, hb, hml, hown, hts⟩ (ok_X1_turnKeysBy l G a H.size n v (f_X0_hourOfDay v) hn) (cwV 1 hts gX0_passHours_X1_turnKeysBy rfl rfl rfl (by decide +kernel) ⟨Nat.le_of_ble_eq_true rfl, Nat.le_of_ble_eq_true rfl⟩) ⟨pcW_blind, va_recv hK (hP.sub (ws' := (drawersC G.2 a v)) [2, 3, 4, 5, 6] rfl) (ci := 1) (q0 := 0) rfl rfl, pcW_pre (hP.sub (ws' := (drawersC G.2 a v)) [2, 3, 4, 5, 6] rfl) (hD.sub (ws' := (drawersC G.2 a v)) [2, 3, 4, 5, 6] (by decide) rfl) hamb⟩ rfl rfl hl.1 rfl (lv_room (Nat.le_of_ble_eq_true rfl)) dX0_passHours_50 ⟨Nat.zero_le _, Nat.zero_le _⟩) (wr := [(a 0, .inr (0, [.ref (a 1), .int (v 0 0), .ref (a 2), .ref (a 7)])), (a 1, .inl (G.2 0, 3, .inl (v 2))), (a 7, .inr (3, [.int (v 1 0), .ref (a 8), .ref (a 9), .ref (a 10), .ref (a 11), .ref (a 12), .ref (a 13), .ref (a 14)])), (a 8, .inl (G.2 0, 30, .inl (v 7))), (a 9, .inl (G.2 0, 30, .inl (v 8))), (a 10, .inl (G.2 0, 30, .inl (v 9))), (a 11, .inl (G.2 0, 30, .inl (v 10))), (a 12, .inl (G.2 0, 30, .inl (v 11))), (a 13, .inl (G.2 0, 30, .inl (v 12))), (a 14, .inl (G.2 0, 30, .inl (v 13)))]) hP hD hS hA [2, 3, 4, 5, 6] [0, 1, 7, 8, 9, 10, 11, 12, 13, 14] rfl rfl (by decide) (by decide) (fun v50 H locs hw hP hD hS => ?_)
        have hf := bd1_2 hf hw
        have hP : va_P G.1 vwCl (deskC G.2 a (mx [3, 4, 5, 6] v v50)) H := hP.sub [0, 1, 10, 11, 12, 13, 14, 2, 3, 4, 5, 6, 7, 8, 9] rfl
        have hD : va_D A (deskC G.2 a (mx [3, 4, 5, 6] v v50)) := hD.sub [0, 1, 10, 11, 12, 13, 14, 2, 3, 4, 5, 6, 7, 8, 9] (by decide) rfl
        refine lv_aload_n hx hb dX0_passHours_53 rfl (lv_at hl 0 rfl) ?_
        refine vp_callSi (W.runV (As := []) (rest := []) ⟨hx, hb, hml, hown, hts⟩ (ok_X0_hourOfDay l G a (mx [3, 4, 5, 6] v v50)) (cwV 0 hts gX0_passHours_X0_hourOfDay rfl rfl rfl (by decide +kernel) ⟨Nat.le_of_ble_eq_true rfl, Nat.le_of_ble_eq_true rfl⟩) ⟨pcR_blind, va_recv hK hP (ci := 0) (q0 := 0) rfl rfl, pcR_pre hP hamb⟩ rfl rfl hl.1 rfl (lv_room (Nat.le_of_ble_eq_true rfl)) dX0_passHours_54 ⟨Nat.zero_le _, Nat.zero_le _⟩) (fun r54 hw => ?_)
        subst hw
        refine lv_aload_n hx hb dX0_passHours_57 rfl (lv_at hl 0 rfl) ?_
        refine va_get (D := G.1) (ci := 0) (v := .ref (a 1)) (C := RX0) (T := TX0) (N := 4) hx hb hts hinX0 hown hK hP 0 rfl rfl 0 (by decide) lk9 (fun _ h9 => h9) rfl dX0_passHours_58 ?_
        refine lv_iconst (v := 0) hx hb dX0_passHours_61 (by decide) ?_
        refine va_iald (f := ((mx [3, 4, 5, 6] v v50) 2)) hx hb hK hP 1 0 rfl rfl (ixb_1 (show ixb 0 3 = true from rfl)) dX0_passHours_62 ?_
        refine lv_icmp_ne (tgt := 77) hx hb dX0_passHours_63 (by decide) (fun c => ?_) (fun c => ?_)
        · have hf := it_2 hf c
          refine lv_aload_n hx hb dX0_passHours_77 rfl (lv_at hl 0 rfl) ?_
          refine lv_dup hx hb dX0_passHours_78 rfl ?_
          refine va_get (D := G.1) (ci := 0) (v := .int ((mx [3, 4, 5, 6] v v50) 0 0)) (C := RX0) (T := TX0) (N := 4) hx hb hts hinX0 hown hK hP 0 rfl rfl 1 (by decide) lk33 (fun _ h9 => h9) rfl dX0_passHours_79 ?_
          refine lv_iconst (v := 1) hx hb dX0_passHours_82 (by decide) ?_
          refine lv_iadd hx hb dX0_passHours_83 ?_
          refine va_put (D := G.1) (ci := 0) (v := .int (((mx [3, 4, 5, 6] v v50) 0 0) + 1)) (ty := .int) (C := RX0) (T := TX0) (N := 4) hx hb hts hinX0 tyX0 tyX0_ok nmX0 hown hK hP hD hS 0 rfl rfl 1 (by decide) lk33 (fun _ h9 => h9) rfl (by decide +kernel) rfl rfl (Nat.le_of_ble_eq_true rfl) dX0_passHours_84 (fun H locs hP hD hS => ?_)
          have hP : va_P G.1 vwCl (deskC G.2 a (vs (mx [3, 4, 5, 6] v v50) 0 (fun _ => (((mx [3, 4, 5, 6] v v50) 0 0) + 1)))) H := hP
          have hD : va_D A (deskC G.2 a (vs (mx [3, 4, 5, 6] v v50) 0 (fun _ => (((mx [3, 4, 5, 6] v v50) 0 0) + 1)))) := hD
          refine lv_iinc (v := (x3 + 1)) (lv' := [(3, .int (x3 + 1)), (0, .ref (a 0)), (1, .int x1), (2, .int x2)]) hx hb dX0_passHours_87 hl (k := 3) rfl rfl (by decide) rfl (fun ls hl => ?_)
          refine lv_goto (tgt := 37) hx hb dX0_passHours_90 (by decide) ?_
          exact ih (vs (mx [3, 4, 5, 6] v v50) 0 (fun _ => (((mx [3, 4, 5, 6] v v50) 0 0) + 1))) x1 x2 (x3 + 1) H locs ls hP hD hS (lv_sub hl [1, 2, 3, 0] rfl) hf
        · have hf := it_1 hf c
          refine lv_iload_n hx hb dX0_passHours_66 rfl (lv_at hl 2 rfl) ?_
          refine lv_aload_n hx hb dX0_passHours_67 rfl (lv_at hl 0 rfl) ?_
          refine lv_aload_n hx hb dX0_passHours_68 rfl (lv_at hl 0 rfl) ?_
          have hn := bd1_1 hf hne
          refine vp_callSl (W.runV (As := []) (rest := [.ref (a 0), .int x2]) ⟨hx, hb, hml, hown, hts⟩ (ok_X0_setThatWouldGo l G a n (mx [3, 4, 5, 6] v v50) hn) (cwV 0 hts gX0_passHours_X0_setThatWouldGo rfl rfl rfl (by decide +kernel) ⟨Nat.le_of_ble_eq_true rfl, Nat.le_of_ble_eq_true rfl⟩) ⟨pcR_blind, va_recv hK hP (ci := 0) (q0 := 0) rfl rfl, pcR_pre hP hamb⟩ rfl rfl hl.1 rfl (lv_room (Nat.le_of_ble_eq_true rfl)) dX0_passHours_69 ⟨Nat.zero_le _, Nat.zero_le _⟩) (fun r69 hw => ?_)
          have hf := bd1_2 hf hw
          have hn := bd2_1 hf hne
          refine cwi (va_runV (As := [.long r69]) (rest := [.int x2]) ⟨hx, hb, hml, hown, hts⟩ (ok_X0_send l G a H.size n (mx [3, 4, 5, 6] v v50) r69 hn) (cwV 1 hts gX0_passHours_X0_send rfl rfl rfl (by decide +kernel) ⟨Nat.le_of_ble_eq_true rfl, Nat.le_of_ble_eq_true rfl⟩) ⟨pcW_blind, va_recv hK hP (ci := 0) (q0 := 0) rfl rfl, pcW_pre hP hD hamb⟩ rfl rfl hl.1 rfl (lv_room (Nat.le_of_ble_eq_true rfl)) dX0_passHours_72 ⟨Nat.zero_le _, Nat.zero_le _⟩) (wr := []) hP hD hS hA [0, 1, 2, 3, 4, 5, 6, 7, 8, 9, 10, 11, 12, 13, 14] [] rfl rfl (by decide) (by decide) (fun r72 v72 H locs hw hP hD hS => ?_)
          have hf := bd2_2 hf hw
          have hP : va_P G.1 vwCl (deskC G.2 a v72) H := hP
          have hD : va_D A (deskC G.2 a v72) := hD
          refine lv_iadd hx hb dX0_passHours_75 ?_
          refine lv_istore_n (lv' := [(2, .int (x2 + r72)), (0, .ref (a 0)), (1, .int x1), (3, .int x3)]) hx hb dX0_passHours_76 rfl hl (by decide) rfl (fun ls hl => ?_)
          refine lv_aload_n hx hb dX0_passHours_77 rfl (lv_at hl 1 rfl) ?_
          refine lv_dup hx hb dX0_passHours_78 rfl ?_
          refine va_get (D := G.1) (ci := 0) (v := .int (v72 0 0)) (C := RX0) (T := TX0) (N := 4) hx hb hts hinX0 hown hK hP 0 rfl rfl 1 (by decide) lk33 (fun _ h9 => h9) rfl dX0_passHours_79 ?_
          refine lv_iconst (v := 1) hx hb dX0_passHours_82 (by decide) ?_
          refine lv_iadd hx hb dX0_passHours_83 ?_
          refine va_put (D := G.1) (ci := 0) (v := .int ((v72 0 0) + 1)) (ty := .int) (C := RX0) (T := TX0) (N := 4) hx hb hts hinX0 tyX0 tyX0_ok nmX0 hown hK hP hD hS 0 rfl rfl 1 (by decide) lk33 (fun _ h9 => h9) rfl (by decide +kernel) rfl rfl (Nat.le_of_ble_eq_true rfl) dX0_passHours_84 (fun H locs hP hD hS => ?_)
          have hP : va_P G.1 vwCl (deskC G.2 a (vs v72 0 (fun _ => ((v72 0 0) + 1)))) H := hP
          have hD : va_D A (deskC G.2 a (vs v72 0 (fun _ => ((v72 0 0) + 1)))) := hD
          refine lv_iinc (v := (x3 + 1)) (lv' := [(3, .int (x3 + 1)), (2, .int (x2 + r72)), (0, .ref (a 0)), (1, .int x1)]) hx hb dX0_passHours_87 hl (k := 3) rfl rfl (by decide) rfl (fun ls hl => ?_)
          refine lv_goto (tgt := 37) hx hb dX0_passHours_90 (by decide) ?_
          exact ih (vs v72 0 (fun _ => ((v72 0 0) + 1))) x1 (x2 + r72) (x3 + 1) H locs ls hP hD hS (lv_sub hl [2, 3, 1, 0] rfl) hf
  refine lv_iload_n hx hb dX0_passHours_0 rfl (lv_at hl 1 rfl) ?_
  refine lv_iconst (v := 1) hx hb dX0_passHours_1 (by decide) ?_
  refine lv_icmp_lt (tgt := 12) hx hb dX0_passHours_2 (by decide) (fun c => ?_) (fun c => ?_)
  · have hf := it_1 hf c
    refine lv_bipush (v := (-2)) hx hb dX0_passHours_12 (by decide) ?_
    exact W.iret (v := (-2)) hx hb hr (fun t ht hW => ⟨⟨(-2), v0, rfl, hf0.trans hf.symm, by rw [ht]; exact hP, hD⟩, hS.F ht⟩) hS.2.2 dX0_passHours_14
  · have hf := it_2 hf c
    refine lv_iload_n hx hb dX0_passHours_5 rfl (lv_at hl 1 rfl) ?_
    refine lv_sipush (v := 240) hx hb dX0_passHours_6 (by decide) ?_
    refine lv_icmp_le (tgt := 15) hx hb dX0_passHours_9 (by decide) (fun c => ?_) (fun c => ?_)
    · have hf := it_1 hf c
      refine lv_aload_n hx hb dX0_passHours_15 rfl (lv_at hl 0 rfl) ?_
      refine va_get (D := G.1) (ci := 0) (v := .int (v0 0 0)) (C := RX0) (T := TX0) (N := 4) hx hb hts hinX0 hown hK hP 0 rfl rfl 1 (by decide) lk33 (fun _ h9 => h9) rfl dX0_passHours_16 ?_
      refine lv_iload_n hx hb dX0_passHours_19 rfl (lv_at hl 1 rfl) ?_
      refine lv_iadd hx hb dX0_passHours_20 ?_
      refine lv_bipush (v := 24) hx hb dX0_passHours_21 (by decide) ?_
      refine lv_idiv hx hb dX0_passHours_23 (by decide) ?_
      refine lv_sipush (v := 999) hx hb dX0_passHours_24 (by decide) ?_
      refine lv_icmp_le (tgt := 33) hx hb dX0_passHours_27 (by decide) (fun c => ?_) (fun c => ?_)
      · have hf := it_1 hf c
        refine lv_iconst (v := 0) hx hb dX0_passHours_33 (by decide) ?_
        refine lv_istore_n (lv' := [(2, .int 0), (0, .ref (a 0)), (1, .int p1)]) hx hb dX0_passHours_34 rfl hl (by decide) rfl (fun ls hl => ?_)
        refine lv_iconst (v := 0) hx hb dX0_passHours_35 (by decide) ?_
        refine lv_istore_n (lv' := [(3, .int 0), (2, .int 0), (0, .ref (a 0)), (1, .int p1)]) hx hb dX0_passHours_36 rfl hl (by decide) rfl (fun ls hl => ?_)
        exact L37 n0 v0 p1 0 0 s.heap [] ls hP hD hS (lv_sub hl [2, 3, 1, 0] rfl) hf
      · have hf := it_2 hf c
        refine lv_bipush (v := (-5)) hx hb dX0_passHours_30 (by decide) ?_
        exact W.iret (v := (-5)) hx hb hr (fun t ht hW => ⟨⟨(-5), v0, rfl, hf0.trans hf.symm, by rw [ht]; exact hP, hD⟩, hS.F ht⟩) hS.2.2 dX0_passHours_32
    · have hf := it_2 hf c
      refine lv_bipush (v := (-2)) hx hb dX0_passHours_12 (by decide) ?_
      exact W.iret (v := (-2)) hx hb hr (fun t ht hW => ⟨⟨(-2), v0, rfl, hf0.trans hf.symm, by rw [ht]; exact hP, hD⟩, hS.F ht⟩) hS.2.2 dX0_passHours_14
set_option maxHeartbeats 4000000 in
set_option maxRecDepth 100000 in
theorem ok_X0_hoursTillSent (l : Launch) (G : Gt) (a : Nat → Nat) (n0 : Nat) (v0 : DV) (p1 : Int32) (p2 : Int32) (p3 : Int32) (hne : f_X0_hoursTillSent n0 v0 p1 p2 p3 ≠ none) : Met l yX0_hoursTillSent wsX0_hoursTillSent ({ frames := 2, cells := 0, slots := 0, locals := 65 } : Room) (pcR G [.ref (a 0), .int p1, .int p2, .int p3] (deskC G.2 a v0)) (vp_Si (fun r => f_X0_hoursTillSent n0 v0 p1 p2 p3 = some r)) 0 0 (fun _ => False) := by
  refine Met.ofW (cc := cX0_hoursTillSent) (maxL := 8) (ret := (some .int)) (by decide) rfl ?_
  intro p e s m args below meth c s₁ B hml hv
  obtain ⟨rfl, hP, hamb⟩ := hv
  have hx := B.exec
  have hb := B.bytes
  have hr := B.returns
  have hts := atoms_spec (ws := wsX0_hoursTillSent) B.pre
  have hown : s.vm.findClass RX0 = some m.cls := findClass_of_methodNamed B.named
  have hlocks := B.notSynchronized
  have hK := hamb.1
  obtain ⟨res, hf0⟩ : ∃ res, f_X0_hoursTillSent n0 v0 p1 p2 p3 = res := ⟨_, rfl⟩
  have hne : res ≠ none := hf0 ▸ hne
  have hf := hf0
  rw [f_X0_hoursTillSent] at hf
  have hinX0 : ∀ w ∈ u_ws RX0 TX0 4, w ∈ wsX0_hoursTillSent := by decide +kernel
  have hinX3 : ∀ w ∈ u_ws RX3 TX3 8, w ∈ wsX0_hoursTillSent := by decide +kernel
  have lk25 := hts (.fieldLink RX0 25 "MoodDrawers$Desk" "letters" "LMoodDrawers$Letters;") (by decide +kernel)
  have lk64 := hts (.fieldLink RX0 64 "MoodDrawers$Letters" "mood" "[I") (by decide +kernel)
  have lw2 := hts (.initialized RX6) (by decide +kernel)
  have lw3 := hts (.static yX6_isMood) (by decide +kernel)
  have lk33 := hts (.fieldLink RX0 33 "MoodDrawers$Desk" "now" "I") (by decide +kernel)
  have lw5 := hts (.methodLink RX0 136 Lib.Math.max.name) (by decide +kernel)
  have lw6 := hts (.static Lib.Math.max.name) (by decide +kernel)
  have lw7 := hts (.initialized "java/lang/Math") (by decide +kernel)
  have lw8 := hts (.code Lib.Math.max.name Lib.Math.max.code 2 (some .int)) (by decide +kernel)
  have lk18 := hts (.fieldLink RX0 18 "MoodDrawers$Desk" "drawers" "LMoodDrawers$Drawers;") (by decide +kernel)
  have hl := lv_entry ([.ref (a 0), .int p1, .int p2, .int p3]) (n := 8) (Nat.le_of_ble_eq_true rfl)
  rw [lg_entry_eq]
  generalize (lg_sl ([.ref (a 0), .int p1, .int p2, .int p3]) ++ List.replicate (8 - (lg_sl ([.ref (a 0), .int p1, .int p2, .int p3])).length) Slot.unset).toArray = ls at hl ⊢
  have hl : lv_has ls 8 [(0, .ref (a 0)), (1, .int p1), (2, .int p2), (3, .int p3)] := hl
  have L58 : ∀ (n : Nat) (v : DV) (x3 : Int32) (x4 : Int32) (x6 : Int32) (x7 : Int32) (ls : Array Slot), va_P G.1 vwCl (deskC G.2 a v) s.heap → lv_has ls 8 [(0, .ref (a 0)), (3, .int x3), (4, .int x4), (6, .int x6), (7, .int x7)] → f_X0_hoursTillSent_L58 n v x3 x4 x6 x7 = res → W p l e (headSpec wsX0_hoursTillSent ({ frames := 2, cells := 0, slots := 0, locals := 65 } : Room)).room s m ([.ref (a 0), .int p1, .int p2, .int p3] : List Value).toArray below meth c s.heap [] 0 0 (MQ below (vp_Si (fun r => f_X0_hoursTillSent n0 v0 p1 p2 p3 = some r)) ([.ref (a 0), .int p1, .int p2, .int p3] : List Value).toArray s 0 0 (fun _ => False)) (F0 m 58 ls []) := by
    intro n
    induction n with
    | zero => intro v x3 x4 x6 x7 ls hP hl hf; exact (none_1 hf hne).elim
    | succ n ih =>
      intro v x3 x4 x6 x7 ls hP hl hf
      rw [f_X0_hoursTillSent_L58] at hf
      refine lv_iload hx hb dX0_hoursTillSent_58 (lv_at hl 4 rfl) ?_
      refine lv_iconst (v := 2) hx hb dX0_hoursTillSent_60 (by decide) ?_
      refine lv_icmp_ge (tgt := 115) hx hb dX0_hoursTillSent_61 (by decide) (fun c => ?_) (fun c => ?_)
      · have hf := it_1 hf c
        refine lv_bipush (v := (-6)) hx hb dX0_hoursTillSent_115 (by decide) ?_
        exact W.iret (v := (-6)) hx hb hr (fun t ht hW => ⟨(-6), rfl, hf0.trans hf.symm, ht⟩) (fun _ hq => absurd hq List.not_mem_nil) dX0_hoursTillSent_117
      · have hf := it_2 hf c
        refine lv_iload hx hb dX0_hoursTillSent_64 (lv_at hl 3 rfl) ?_
        refine lv_aload_n hx hb dX0_hoursTillSent_66 rfl (lv_at hl 0 rfl) ?_
        refine va_get (D := G.1) (ci := 0) (v := .int (v 0 0)) (C := RX0) (T := TX0) (N := 4) hx hb hts hinX0 hown hK hP 0 rfl rfl 1 (by decide) lk33 (fun _ h9 => h9) rfl dX0_hoursTillSent_67 ?_
        refine lv_isub hx hb dX0_hoursTillSent_70 ?_
        refine lv_iload_n hx hb dX0_hoursTillSent_71 rfl (lv_at hl 1 rfl) ?_
        refine lv_icmp_lt (tgt := 78) hx hb dX0_hoursTillSent_72 (by decide) (fun c => ?_) (fun c => ?_)
        · have hf := it_1 hf c
          refine lv_aload_n hx hb dX0_hoursTillSent_78 rfl (lv_at hl 0 rfl) ?_
          refine va_get (D := G.1) (ci := 0) (v := .ref (a 2)) (C := RX0) (T := TX0) (N := 4) hx hb hts hinX0 hown hK hP 0 rfl rfl 2 (by decide) lk18 (fun _ h9 => h9) rfl dX0_hoursTillSent_79 ?_
          refine lv_iload hx hb dX0_hoursTillSent_82 (lv_at hl 2 rfl) ?_
          refine lv_aload_n hx hb dX0_hoursTillSent_84 rfl (lv_at hl 0 rfl) ?_
          refine va_get (D := G.1) (ci := 0) (v := .int (v 0 0)) (C := RX0) (T := TX0) (N := 4) hx hb hts hinX0 hown hK hP 0 rfl rfl 1 (by decide) lk33 (fun _ h9 => h9) rfl dX0_hoursTillSent_85 ?_
          refine lv_iload hx hb dX0_hoursTillSent_88 (lv_at hl 3 rfl) ?_
          have hn := bd1_1 hf hne
          refine vp_callSi (W.runV (As := [.int x4, .int (v 0 0), .int x6]) (rest := []) ⟨hx, hb, hml, hown, hts⟩ (ok_X1_isLockedAt l G a v x4 (v 0 0) x6 hn) (cwV 3 hts gX0_hoursTillSent_X1_isLockedAt rfl rfl rfl (by decide +kernel) ⟨Nat.le_of_ble_eq_true rfl, Nat.le_of_ble_eq_true rfl⟩) ⟨pcR_blind, va_recv hK (hP.sub (ws' := (drawersC G.2 a v)) [2, 3, 4, 5, 6] rfl) (ci := 1) (q0 := 0) rfl rfl, pcR_pre (hP.sub (ws' := (drawersC G.2 a v)) [2, 3, 4, 5, 6] rfl) hamb⟩ rfl rfl hl.1 rfl (lv_room (Nat.le_of_ble_eq_true rfl)) dX0_hoursTillSent_90 ⟨Nat.zero_le _, Nat.zero_le _⟩) (fun r90 hw => ?_)
          have hf := bd1_2 hf hw
          refine lv_if_ne (tgt := 106) hx hb dX0_hoursTillSent_93 (by decide) (fun c => ?_) (fun c => ?_)
          · have hf := it_2 hf c
            refine lv_iinc (v := (x6 + 24)) (lv' := [(6, .int (x6 + 24)), (0, .ref (a 0)), (3, .int x3), (4, .int x4), (7, .int x7)]) hx hb dX0_hoursTillSent_106 hl (k := 3) rfl rfl (by decide) rfl (fun ls hl => ?_)
            refine lv_iinc (v := (x7 + 1)) (lv' := [(7, .int (x7 + 1)), (6, .int (x6 + 24)), (0, .ref (a 0)), (3, .int x3), (4, .int x4)]) hx hb dX0_hoursTillSent_109 hl (k := 4) rfl rfl (by decide) rfl (fun ls hl => ?_)
            refine lv_goto (tgt := 58) hx hb dX0_hoursTillSent_112 (by decide) ?_
            exact ih v x3 x4 (x6 + 24) (x7 + 1) ls hP (lv_sub hl [2, 3, 4, 1, 0] rfl) hf
          · have hf := it_1 hf c
            refine lv_iload hx hb dX0_hoursTillSent_96 (lv_at hl 3 rfl) ?_
            refine lv_aload_n hx hb dX0_hoursTillSent_98 rfl (lv_at hl 0 rfl) ?_
            refine va_get (D := G.1) (ci := 0) (v := .int (v 0 0)) (C := RX0) (T := TX0) (N := 4) hx hb hts hinX0 hown hK hP 0 rfl rfl 1 (by decide) lk33 (fun _ h9 => h9) rfl dX0_hoursTillSent_99 ?_
            refine lv_isub hx hb dX0_hoursTillSent_102 ?_
            refine lv_iconst (v := 1) hx hb dX0_hoursTillSent_103 (by decide) ?_
            refine lv_iadd hx hb dX0_hoursTillSent_104 ?_
            exact W.iret (v := ((x6 - (v 0 0)) + 1)) hx hb hr (fun t ht hW => ⟨((x6 - (v 0 0)) + 1), rfl, hf0.trans hf.symm, ht⟩) (fun _ hq => absurd hq List.not_mem_nil) dX0_hoursTillSent_105
        · have hf := it_2 hf c
          refine lv_bipush (v := (-6)) hx hb dX0_hoursTillSent_75 (by decide) ?_
          exact W.iret (v := (-6)) hx hb hr (fun t ht hW => ⟨(-6), rfl, hf0.trans hf.symm, ht⟩) (fun _ hq => absurd hq List.not_mem_nil) dX0_hoursTillSent_77
  refine lv_aload_n hx hb dX0_hoursTillSent_0 rfl (lv_at hl 0 rfl) ?_
  refine va_get (D := G.1) (ci := 0) (v := .ref (a 7)) (C := RX0) (T := TX0) (N := 4) hx hb hts hinX0 hown hK hP 0 rfl rfl 3 (by decide) lk25 (fun _ h9 => h9) rfl dX0_hoursTillSent_1 ?_
  refine va_get (D := G.1) (ci := 3) (v := .ref (a 8)) (C := RX3) (T := TX3) (N := 8) hx hb hts hinX3 hown hK hP 7 rfl rfl 1 (by decide) lk64 (fun _ h9 => h9) rfl dX0_hoursTillSent_4 ?_
  refine lv_iload_n hx hb dX0_hoursTillSent_7 rfl (lv_at hl 1 rfl) ?_
  obtain ⟨hi, hf⟩ := ck_1 hf hne
  refine va_iald (f := (v0 7)) hx hb hK hP 8 0 rfl rfl (ixb_1 hi) dX0_hoursTillSent_8 ?_
  refine lv_istore (lv' := [(4, .int ((v0 7) (Int32.toNatClampNeg p1))), (0, .ref (a 0)), (1, .int p1), (2, .int p2), (3, .int p3)]) hx hb dX0_hoursTillSent_9 hl (by decide) rfl (fun ls hl => ?_)
  refine lv_iload hx hb dX0_hoursTillSent_11 (lv_at hl 0 rfl) ?_
  refine vp_callSi ((va_runSN (As := [.int ((v0 7) (Int32.toNatClampNeg p1))]) (rest := []) ⟨hx, hb, hml, hown, hts⟩ (ok_X6_isMood l ((v0 7) (Int32.toNatClampNeg p1))) ⟨va_cnB 1 hts gX0_hoursTillSent_X6_isMood_n47 rfl rfl rfl (hamb.2.1 (.methodLinkNest RX0 47 yX6_isMood RX6) (List.mem_of_getElem? (i := 10) rfl)) lw2 (by decide +kernel) ⟨Nat.le_of_ble_eq_true rfl, Nat.le_of_ble_eq_true rfl⟩, lw3, trivial⟩ ⟨fun _ _ _ _ q => q, fun _ _ _ => ⟨rfl, trivial⟩⟩ rfl rfl hl.1 rfl (lv_room (Nat.le_of_ble_eq_true rfl)) dX0_hoursTillSent_13 ⟨Nat.zero_le _, Nat.zero_le _⟩).run) (fun r13 hw => ?_)
  subst hw
  refine lv_if_ne (tgt := 22) hx hb dX0_hoursTillSent_16 (by decide) (fun c => ?_) (fun c => ?_)
  · have hf := it_2 hf c
    refine lv_aload_n hx hb dX0_hoursTillSent_22 rfl (lv_at hl 1 rfl) ?_
    refine va_get (D := G.1) (ci := 0) (v := .int (v0 0 0)) (C := RX0) (T := TX0) (N := 4) hx hb hts hinX0 hown hK hP 0 rfl rfl 1 (by decide) lk33 (fun _ h9 => h9) rfl dX0_hoursTillSent_23 ?_
    refine lv_aload_n hx hb dX0_hoursTillSent_26 rfl (lv_at hl 1 rfl) ?_
    refine lv_iload_n hx hb dX0_hoursTillSent_27 rfl (lv_at hl 2 rfl) ?_
    refine lv_iload hx hb dX0_hoursTillSent_28 (lv_at hl 0 rfl) ?_
    have hn := bd1_1 hf hne
    refine vp_callSi (W.runV (As := [.int p1, .int ((v0 7) (Int32.toNatClampNeg p1))]) (rest := [.int (v0 0 0)]) ⟨hx, hb, hml, hown, hts⟩ (ok_X0_readyDay l G a v0 p1 ((v0 7) (Int32.toNatClampNeg p1)) hn) (cwV 2 hts gX0_hoursTillSent_X0_readyDay rfl rfl rfl (by decide +kernel) ⟨Nat.le_of_ble_eq_true rfl, Nat.le_of_ble_eq_true rfl⟩) ⟨pcR_blind, va_recv hK hP (ci := 0) (q0 := 0) rfl rfl, pcR_pre hP hamb⟩ rfl rfl hl.1 rfl (lv_room (Nat.le_of_ble_eq_true rfl)) dX0_hoursTillSent_30 ⟨Nat.zero_le _, Nat.zero_le _⟩) (fun r30 hw => ?_)
    have hf := bd1_2 hf hw
    refine lv_bipush (v := 24) hx hb dX0_hoursTillSent_33 (by decide) ?_
    refine lv_imul hx hb dX0_hoursTillSent_35 ?_
    refine va_mmax (rest := []) hx hb (hml.trans hl.1.symm) hown lw5 lw6 lw7 lw8 (Nat.le_of_ble_eq_true rfl) (Nat.le_of_ble_eq_true rfl) (Nat.zero_le _) (Nat.zero_le _) dX0_hoursTillSent_36 ?_
    refine lv_istore (lv' := [(5, .int (if (v0 0 0) < (r30 * 24) then (r30 * 24) else (v0 0 0))), (4, .int ((v0 7) (Int32.toNatClampNeg p1))), (0, .ref (a 0)), (1, .int p1), (2, .int p2), (3, .int p3)]) hx hb dX0_hoursTillSent_39 hl (by decide) rfl (fun ls hl => ?_)
    refine lv_iload hx hb dX0_hoursTillSent_41 (lv_at hl 0 rfl) ?_
    refine lv_iload_n hx hb dX0_hoursTillSent_43 rfl (lv_at hl 4 rfl) ?_
    refine lv_iload hx hb dX0_hoursTillSent_44 (lv_at hl 0 rfl) ?_
    refine lv_isub hx hb dX0_hoursTillSent_46 ?_
    refine lv_bipush (v := 24) hx hb dX0_hoursTillSent_47 (by decide) ?_
    have hn := bd1_1 hf hne
    refine vp_callSi (W.runS (As := [.int (p2 - (if (v0 0 0) < (r30 * 24) then (r30 * 24) else (v0 0 0))), .int 24]) (rest := [.int (if (v0 0 0) < (r30 * 24) then (r30 * 24) else (v0 0 0))]) ⟨hx, hb, hml, hown, hts⟩ (ok_J9_floorMod_7cf53 l (p2 - (if (v0 0 0) < (r30 * 24) then (r30 * 24) else (v0 0 0))) 24 hn) (va_cwS 2 hts gX0_hoursTillSent_J9_floorMod_7cf53 rfl rfl rfl (by decide +kernel) ⟨Nat.le_of_ble_eq_true rfl, Nat.le_of_ble_eq_true rfl⟩) ⟨fun _ _ _ _ q => q, fun _ _ _ => ⟨rfl, trivial⟩⟩ rfl rfl hl.1 rfl (lv_room (Nat.le_of_ble_eq_true rfl)) dX0_hoursTillSent_49 ⟨Nat.zero_le _, Nat.zero_le _⟩) (fun r49 hw => ?_)
    have hf := bd1_2 hf hw
    refine lv_iadd hx hb dX0_hoursTillSent_52 ?_
    refine lv_istore (lv' := [(6, .int ((if (v0 0 0) < (r30 * 24) then (r30 * 24) else (v0 0 0)) + r49)), (5, .int (if (v0 0 0) < (r30 * 24) then (r30 * 24) else (v0 0 0))), (4, .int ((v0 7) (Int32.toNatClampNeg p1))), (0, .ref (a 0)), (1, .int p1), (2, .int p2), (3, .int p3)]) hx hb dX0_hoursTillSent_53 hl (by decide) rfl (fun ls hl => ?_)
    refine lv_iconst (v := 0) hx hb dX0_hoursTillSent_55 (by decide) ?_
    refine lv_istore (lv' := [(7, .int 0), (6, .int ((if (v0 0 0) < (r30 * 24) then (r30 * 24) else (v0 0 0)) + r49)), (5, .int (if (v0 0 0) < (r30 * 24) then (r30 * 24) else (v0 0 0))), (4, .int ((v0 7) (Int32.toNatClampNeg p1))), (0, .ref (a 0)), (1, .int p1), (2, .int p2), (3, .int p3)]) hx hb dX0_hoursTillSent_56 hl (by decide) rfl (fun ls hl => ?_)
    exact L58 n0 v0 p3 ((v0 7) (Int32.toNatClampNeg p1)) ((if (v0 0 0) < (r30 * 24) then (r30 * 24) else (v0 0 0)) + r49) 0 ls hP (lv_sub hl [4, 7, 3, 1, 0] rfl) hf
  · have hf := it_1 hf c
    refine lv_bipush (v := (-6)) hx hb dX0_hoursTillSent_19 (by decide) ?_
    exact W.iret (v := (-6)) hx hb hr (fun t ht hW => ⟨(-6), rfl, hf0.trans hf.symm, ht⟩) (fun _ hq => absurd hq List.not_mem_nil) dX0_hoursTillSent_21
end
