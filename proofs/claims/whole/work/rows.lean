section
-- ===== PART A: goes FIRST, ahead of the names: the tables' words, and 'selects' of the private methods out of them =====
/-- a private method of a class that the tables say can be made, by its rows of tables_1 -/
def lw_okq (q : MethodName × Nat) : Prop := (q.1.cls ≠ "java/lang/invoke/MethodHandle" ∧ q.1.cls ≠ "java/lang/invoke/VarHandle") ∧ Cond.instantiable q.1.cls q.2 ∈ tables_1 ∧ Cond.privateMethod q.1 ∈ tables_1 ∧ Cond.instanceMethod q.1 ∈ tables_1
theorem lw_p0 : lw_okq (⟨"GlacierGuidesModel", "record", "()V"⟩, 13) := ⟨⟨by decide +kernel, by decide +kernel⟩, List.mem_of_getElem? (i := 649) (by decide +kernel), List.mem_of_getElem? (i := 705) (by decide +kernel), List.mem_of_getElem? (i := 706) (by decide +kernel)⟩
theorem lw_p1 : lw_okq (⟨"GlacierGuidesModel", "noGuide", "(I)Z"⟩, 13) := ⟨⟨by decide +kernel, by decide +kernel⟩, List.mem_of_getElem? (i := 649) (by decide +kernel), List.mem_of_getElem? (i := 713) (by decide +kernel), List.mem_of_getElem? (i := 714) (by decide +kernel)⟩
theorem lw_p2 : lw_okq (⟨"GlacierGuidesModel", "ofGuide", "(II)I"⟩, 13) := ⟨⟨by decide +kernel, by decide +kernel⟩, List.mem_of_getElem? (i := 649) (by decide +kernel), List.mem_of_getElem? (i := 717) (by decide +kernel), List.mem_of_getElem? (i := 718) (by decide +kernel)⟩
theorem lw_p3 : lw_okq (⟨"GlacierGuidesModel", "to", "(III)V"⟩, 13) := ⟨⟨by decide +kernel, by decide +kernel⟩, List.mem_of_getElem? (i := 649) (by decide +kernel), List.mem_of_getElem? (i := 745) (by decide +kernel), List.mem_of_getElem? (i := 746) (by decide +kernel)⟩
theorem lw_p4 : lw_okq (⟨"GlacierGuidesModel", "noTour", "(I)Z"⟩, 13) := ⟨⟨by decide +kernel, by decide +kernel⟩, List.mem_of_getElem? (i := 649) (by decide +kernel), List.mem_of_getElem? (i := 753) (by decide +kernel), List.mem_of_getElem? (i := 754) (by decide +kernel)⟩
theorem lw_p5 : lw_okq (⟨"GlacierGuidesModel", "isOpen", "(I)Z"⟩, 13) := ⟨⟨by decide +kernel, by decide +kernel⟩, List.mem_of_getElem? (i := 649) (by decide +kernel), List.mem_of_getElem? (i := 757) (by decide +kernel), List.mem_of_getElem? (i := 758) (by decide +kernel)⟩
theorem lw_p6 : lw_okq (⟨"GlacierGuidesModel", "of", "(II)I"⟩, 13) := ⟨⟨by decide +kernel, by decide +kernel⟩, List.mem_of_getElem? (i := 649) (by decide +kernel), List.mem_of_getElem? (i := 761) (by decide +kernel), List.mem_of_getElem? (i := 762) (by decide +kernel)⟩
theorem lw_p7 : lw_okq (⟨"GlacierGuidesModel", "refunds", "(II)V"⟩, 13) := ⟨⟨by decide +kernel, by decide +kernel⟩, List.mem_of_getElem? (i := 649) (by decide +kernel), List.mem_of_getElem? (i := 771) (by decide +kernel), List.mem_of_getElem? (i := 772) (by decide +kernel)⟩
theorem lw_p8 : lw_okq (⟨"GlacierGuidesModel", "mayLead", "(II)Z"⟩, 13) := ⟨⟨by decide +kernel, by decide +kernel⟩, List.mem_of_getElem? (i := 649) (by decide +kernel), List.mem_of_getElem? (i := 779) (by decide +kernel), List.mem_of_getElem? (i := 780) (by decide +kernel)⟩
theorem lw_p9 : lw_okq (⟨"GlacierGuidesModel", "isBusy", "(II)Z"⟩, 13) := ⟨⟨by decide +kernel, by decide +kernel⟩, List.mem_of_getElem? (i := 649) (by decide +kernel), List.mem_of_getElem? (i := 783) (by decide +kernel), List.mem_of_getElem? (i := 784) (by decide +kernel)⟩
theorem lw_p10 : lw_okq (⟨"GlacierGuidesModel", "leads", "(II)Z"⟩, 13) := ⟨⟨by decide +kernel, by decide +kernel⟩, List.mem_of_getElem? (i := 649) (by decide +kernel), List.mem_of_getElem? (i := 787) (by decide +kernel), List.mem_of_getElem? (i := 788) (by decide +kernel)⟩
theorem lw_p11 : lw_okq (⟨"GlacierGuidesModel", "guideOn", "(II)I"⟩, 13) := ⟨⟨by decide +kernel, by decide +kernel⟩, List.mem_of_getElem? (i := 649) (by decide +kernel), List.mem_of_getElem? (i := 791) (by decide +kernel), List.mem_of_getElem? (i := 792) (by decide +kernel)⟩
theorem lw_p12 : lw_okq (⟨"GlacierGuidesModel", "ratio", "(II)I"⟩, 13) := ⟨⟨by decide +kernel, by decide +kernel⟩, List.mem_of_getElem? (i := 649) (by decide +kernel), List.mem_of_getElem? (i := 795) (by decide +kernel), List.mem_of_getElem? (i := 796) (by decide +kernel)⟩
theorem lw_p13 : lw_okq (⟨"GlacierGuidesModel", "baseOf", "(I)I"⟩, 13) := ⟨⟨by decide +kernel, by decide +kernel⟩, List.mem_of_getElem? (i := 649) (by decide +kernel), List.mem_of_getElem? (i := 799) (by decide +kernel), List.mem_of_getElem? (i := 800) (by decide +kernel)⟩
theorem lw_p14 : lw_okq (⟨"GlacierGuidesModel", "leftOver", "(I)I"⟩, 13) := ⟨⟨by decide +kernel, by decide +kernel⟩, List.mem_of_getElem? (i := 649) (by decide +kernel), List.mem_of_getElem? (i := 809) (by decide +kernel), List.mem_of_getElem? (i := 810) (by decide +kernel)⟩
theorem lw_p15 : lw_okq (⟨"GlacierGuidesModel", "onRope", "(II)I"⟩, 13) := ⟨⟨by decide +kernel, by decide +kernel⟩, List.mem_of_getElem? (i := 649) (by decide +kernel), List.mem_of_getElem? (i := 813) (by decide +kernel), List.mem_of_getElem? (i := 814) (by decide +kernel)⟩
def lw_privs_1 : List (MethodName × Nat) := [(⟨"GlacierGuidesModel", "record", "()V"⟩, 13), (⟨"GlacierGuidesModel", "noGuide", "(I)Z"⟩, 13), (⟨"GlacierGuidesModel", "ofGuide", "(II)I"⟩, 13), (⟨"GlacierGuidesModel", "to", "(III)V"⟩, 13), (⟨"GlacierGuidesModel", "noTour", "(I)Z"⟩, 13), (⟨"GlacierGuidesModel", "isOpen", "(I)Z"⟩, 13), (⟨"GlacierGuidesModel", "of", "(II)I"⟩, 13), (⟨"GlacierGuidesModel", "refunds", "(II)V"⟩, 13), (⟨"GlacierGuidesModel", "mayLead", "(II)Z"⟩, 13), (⟨"GlacierGuidesModel", "isBusy", "(II)Z"⟩, 13), (⟨"GlacierGuidesModel", "leads", "(II)Z"⟩, 13), (⟨"GlacierGuidesModel", "guideOn", "(II)I"⟩, 13), (⟨"GlacierGuidesModel", "ratio", "(II)I"⟩, 13), (⟨"GlacierGuidesModel", "baseOf", "(I)I"⟩, 13), (⟨"GlacierGuidesModel", "leftOver", "(I)I"⟩, 13), (⟨"GlacierGuidesModel", "onRope", "(II)I"⟩, 13)]
theorem lw_r1 : ∀ q ∈ lw_privs_1, lw_okq q := List.forall_mem_cons.mpr ⟨lw_p0, List.forall_mem_cons.mpr ⟨lw_p1, List.forall_mem_cons.mpr ⟨lw_p2, List.forall_mem_cons.mpr ⟨lw_p3, List.forall_mem_cons.mpr ⟨lw_p4, List.forall_mem_cons.mpr ⟨lw_p5, List.forall_mem_cons.mpr ⟨lw_p6, List.forall_mem_cons.mpr ⟨lw_p7, List.forall_mem_cons.mpr ⟨lw_p8, List.forall_mem_cons.mpr ⟨lw_p9, List.forall_mem_cons.mpr ⟨lw_p10, List.forall_mem_cons.mpr ⟨lw_p11, List.forall_mem_cons.mpr ⟨lw_p12, List.forall_mem_cons.mpr ⟨lw_p13, List.forall_mem_cons.mpr ⟨lw_p14, List.forall_mem_cons.mpr ⟨lw_p15, fun _ h => absurd h List.not_mem_nil⟩⟩⟩⟩⟩⟩⟩⟩⟩⟩⟩⟩⟩⟩⟩⟩
theorem lw_p16 : lw_okq (⟨"GlacierGuidesModel", "mayMerge", "(II)Z"⟩, 13) := ⟨⟨by decide +kernel, by decide +kernel⟩, List.mem_of_getElem? (i := 649) (by decide +kernel), List.mem_of_getElem? (i := 821) (by decide +kernel), List.mem_of_getElem? (i := 822) (by decide +kernel)⟩
theorem lw_p17 : lw_okq (⟨"GlacierGuidesModel", "cancels", "(II)I"⟩, 13) := ⟨⟨by decide +kernel, by decide +kernel⟩, List.mem_of_getElem? (i := 649) (by decide +kernel), List.mem_of_getElem? (i := 829) (by decide +kernel), List.mem_of_getElem? (i := 830) (by decide +kernel)⟩
theorem lw_p18 : lw_okq (⟨"GlacierGuidesModel", "passes", "()I"⟩, 13) := ⟨⟨by decide +kernel, by decide +kernel⟩, List.mem_of_getElem? (i := 649) (by decide +kernel), List.mem_of_getElem? (i := 837) (by decide +kernel), List.mem_of_getElem? (i := 838) (by decide +kernel)⟩
theorem lw_p19 : lw_okq (⟨"GlacierGuidesModel", "causeOf", "(I)I"⟩, 13) := ⟨⟨by decide +kernel, by decide +kernel⟩, List.mem_of_getElem? (i := 649) (by decide +kernel), List.mem_of_getElem? (i := 841) (by decide +kernel), List.mem_of_getElem? (i := 842) (by decide +kernel)⟩
theorem lw_p20 : lw_okq (⟨"GlacierGuidesModel", "isHeld", "(II)Z"⟩, 13) := ⟨⟨by decide +kernel, by decide +kernel⟩, List.mem_of_getElem? (i := 649) (by decide +kernel), List.mem_of_getElem? (i := 845) (by decide +kernel), List.mem_of_getElem? (i := 846) (by decide +kernel)⟩
theorem lw_p21 : lw_okq (⟨"GlacierGuidesModel", "neededBy", "(I)D"⟩, 13) := ⟨⟨by decide +kernel, by decide +kernel⟩, List.mem_of_getElem? (i := 649) (by decide +kernel), List.mem_of_getElem? (i := 849) (by decide +kernel), List.mem_of_getElem? (i := 850) (by decide +kernel)⟩
theorem lw_p22 : lw_okq (⟨"GlacierGuidesModel", "goes", "(I)V"⟩, 13) := ⟨⟨by decide +kernel, by decide +kernel⟩, List.mem_of_getElem? (i := 649) (by decide +kernel), List.mem_of_getElem? (i := 854) (by decide +kernel), List.mem_of_getElem? (i := 855) (by decide +kernel)⟩
theorem lw_p23 : lw_okq (⟨"GlacierGuidesModel", "changed", "(D)D"⟩, 13) := ⟨⟨by decide +kernel, by decide +kernel⟩, List.mem_of_getElem? (i := 649) (by decide +kernel), List.mem_of_getElem? (i := 858) (by decide +kernel), List.mem_of_getElem? (i := 859) (by decide +kernel)⟩
theorem lw_p24 : lw_okq (⟨"GlacierGuidesModel", "word", "()I"⟩, 13) := ⟨⟨by decide +kernel, by decide +kernel⟩, List.mem_of_getElem? (i := 649) (by decide +kernel), List.mem_of_getElem? (i := 876) (by decide +kernel), List.mem_of_getElem? (i := 877) (by decide +kernel)⟩
theorem lw_p25 : lw_okq (⟨"GlacierGuidesModel", "isWord", "(ICCCC)Z"⟩, 13) := ⟨⟨by decide +kernel, by decide +kernel⟩, List.mem_of_getElem? (i := 649) (by decide +kernel), List.mem_of_getElem? (i := 880) (by decide +kernel), List.mem_of_getElem? (i := 881) (by decide +kernel)⟩
theorem lw_p26 : lw_okq (⟨"GlacierGuidesModel", "number", "()I"⟩, 13) := ⟨⟨by decide +kernel, by decide +kernel⟩, List.mem_of_getElem? (i := 649) (by decide +kernel), List.mem_of_getElem? (i := 884) (by decide +kernel), List.mem_of_getElem? (i := 885) (by decide +kernel)⟩
theorem lw_p27 : lw_okq (⟨"GlacierGuidesModel", "lowestTour", "(I)I"⟩, 13) := ⟨⟨by decide +kernel, by decide +kernel⟩, List.mem_of_getElem? (i := 649) (by decide +kernel), List.mem_of_getElem? (i := 909) (by decide +kernel), List.mem_of_getElem? (i := 910) (by decide +kernel)⟩
theorem lw_p28 : lw_okq (⟨"GlacierGuidesModel", "noBridge", "(I)Z"⟩, 13) := ⟨⟨by decide +kernel, by decide +kernel⟩, List.mem_of_getElem? (i := 649) (by decide +kernel), List.mem_of_getElem? (i := 925) (by decide +kernel), List.mem_of_getElem? (i := 926) (by decide +kernel)⟩
theorem lw_p29 : lw_okq (⟨"GlacierGuidesModel", "inState", "(I)I"⟩, 13) := ⟨⟨by decide +kernel, by decide +kernel⟩, List.mem_of_getElem? (i := 649) (by decide +kernel), List.mem_of_getElem? (i := 957) (by decide +kernel), List.mem_of_getElem? (i := 958) (by decide +kernel)⟩
theorem lw_p30 : lw_okq (⟨"GlacierGuidesModel", "paidAll", "()I"⟩, 13) := ⟨⟨by decide +kernel, by decide +kernel⟩, List.mem_of_getElem? (i := 649) (by decide +kernel), List.mem_of_getElem? (i := 961) (by decide +kernel), List.mem_of_getElem? (i := 962) (by decide +kernel)⟩
theorem lw_p31 : lw_okq (⟨"GlacierGuidesModel", "goneGuests", "()I"⟩, 13) := ⟨⟨by decide +kernel, by decide +kernel⟩, List.mem_of_getElem? (i := 649) (by decide +kernel), List.mem_of_getElem? (i := 965) (by decide +kernel), List.mem_of_getElem? (i := 966) (by decide +kernel)⟩
def lw_privs_2 : List (MethodName × Nat) := [(⟨"GlacierGuidesModel", "mayMerge", "(II)Z"⟩, 13), (⟨"GlacierGuidesModel", "cancels", "(II)I"⟩, 13), (⟨"GlacierGuidesModel", "passes", "()I"⟩, 13), (⟨"GlacierGuidesModel", "causeOf", "(I)I"⟩, 13), (⟨"GlacierGuidesModel", "isHeld", "(II)Z"⟩, 13), (⟨"GlacierGuidesModel", "neededBy", "(I)D"⟩, 13), (⟨"GlacierGuidesModel", "goes", "(I)V"⟩, 13), (⟨"GlacierGuidesModel", "changed", "(D)D"⟩, 13), (⟨"GlacierGuidesModel", "word", "()I"⟩, 13), (⟨"GlacierGuidesModel", "isWord", "(ICCCC)Z"⟩, 13), (⟨"GlacierGuidesModel", "number", "()I"⟩, 13), (⟨"GlacierGuidesModel", "lowestTour", "(I)I"⟩, 13), (⟨"GlacierGuidesModel", "noBridge", "(I)Z"⟩, 13), (⟨"GlacierGuidesModel", "inState", "(I)I"⟩, 13), (⟨"GlacierGuidesModel", "paidAll", "()I"⟩, 13), (⟨"GlacierGuidesModel", "goneGuests", "()I"⟩, 13)]
theorem lw_r2 : ∀ q ∈ lw_privs_2, lw_okq q := List.forall_mem_cons.mpr ⟨lw_p16, List.forall_mem_cons.mpr ⟨lw_p17, List.forall_mem_cons.mpr ⟨lw_p18, List.forall_mem_cons.mpr ⟨lw_p19, List.forall_mem_cons.mpr ⟨lw_p20, List.forall_mem_cons.mpr ⟨lw_p21, List.forall_mem_cons.mpr ⟨lw_p22, List.forall_mem_cons.mpr ⟨lw_p23, List.forall_mem_cons.mpr ⟨lw_p24, List.forall_mem_cons.mpr ⟨lw_p25, List.forall_mem_cons.mpr ⟨lw_p26, List.forall_mem_cons.mpr ⟨lw_p27, List.forall_mem_cons.mpr ⟨lw_p28, List.forall_mem_cons.mpr ⟨lw_p29, List.forall_mem_cons.mpr ⟨lw_p30, List.forall_mem_cons.mpr ⟨lw_p31, fun _ h => absurd h List.not_mem_nil⟩⟩⟩⟩⟩⟩⟩⟩⟩⟩⟩⟩⟩⟩⟩⟩
def lw_privs : List (MethodName × Nat) := lw_privs_1 ++ (lw_privs_2)
def lw_tbl : List Cond := k2_sels lw_privs ++ tables_1
theorem lw_privs_ok : ∀ q ∈ lw_privs, lw_okq q := by
  show ∀ q ∈ lw_privs_1 ++ (lw_privs_2), lw_okq q
  exact List.forall_mem_append.mpr ⟨lw_r1, lw_r2⟩
/-- the streams that the claim lets the run draw from -/
abbrev lw_cs : List Choice := [Jvm.Choice.named "NaN.bits", Jvm.Choice.named "NaN.copy"]
theorem lw_bits : nanBits ∈ lw_cs := by first | decide | exact List.mem_cons_self | simp [lw_cs, nanBits]
end
section
theorem goodIn_r {big : List Cond} (ws : List Cond) (ps : List Nat) (hp : ws = ps.filterMap (fun i => big[i]?)) (h : ws.all goodWord = true) : GoodIn big ws := by
  intro w hw
  have h1 := List.all_eq_true.mp h w hw
  rw [hp] at hw
  obtain ⟨i, -, hi⟩ := List.mem_filterMap.mp hw
  have hm : w ∈ big := by first | exact List.mem_of_getElem? hi | exact List.getElem?_mem hi
  exact ⟨hm, good_of_word h1⟩
theorem goodIn_app {big a b : List Cond} (ha : GoodIn big a) (hb : GoodIn big b) : GoodIn big (a ++ b) := fun w h => (List.mem_append.mp h).elim (ha w) (hb w)
theorem goodIn_ca {big a b : List Cond} {c : Cond} (ha : GoodIn big (c :: a)) (hb : GoodIn big b) : GoodIn big (c :: (a ++ b)) := fun w h => (List.mem_cons.mp h).elim (fun e => ha w (List.mem_cons.mpr (Or.inl e))) (fun h => (List.mem_append.mp h).elim (fun h => ha w (List.mem_cons.mpr (Or.inr h))) (hb w))
theorem goodIn_sub {big ws : List Cond} (hm : ∀ w ∈ ws, w ∈ big) (h : ws.all goodWord = true) : GoodIn big ws := fun w hw => ⟨hm w hw, good_of_word (List.all_eq_true.mp h w hw)⟩
def RX0 : String := "GlacierGuides$Guide"
def TX0 : u_T := fun k => match k with
  | 0 => ("GlacierGuides$Guide", "kind", "I", false)
  | 1 => ("GlacierGuides$Guide", "until", "I", false)
  | 2 => ("GlacierGuides$Guide", "toursLed", "I", false)
  | _ => ("GlacierGuides$Guide", "guestsLed", "I", false)
def tyX0 : Nat → FieldType := fun k => match k with
  | 0 => .int
  | 1 => .int
  | 2 => .int
  | _ => .int
abbrev wsX00 : List Cond := u_ws RX0 TX0 4
theorem nmX0 : ∀ a, a < 4 → ∀ b, b < 4 → a ≠ b → (TX0 a).2.1 ≠ (TX0 b).2.1 := by decide +kernel
theorem tyX0_ok : ∀ k, k < 4 → parseFieldDescriptor (TX0 k).2.2.1 = some (tyX0 k) := by decide +kernel
abbrev cX0_init : ByteArray := prog_2_method_1_code
def yX0_init : MethodName := ⟨RX0, "<init>", "()V"⟩
abbrev cX0_begin : ByteArray := prog_2_method_2_code
def yX0_begin : MethodName := ⟨RX0, "begin", "(II)V"⟩
abbrev cX0_copyFrom : ByteArray := prog_2_method_3_code
def yX0_copyFrom : MethodName := ⟨RX0, "copyFrom", "(LGlacierGuides$Guide;)V"⟩
abbrev cX0_haveLed : ByteArray := prog_2_method_4_code
def yX0_haveLed : MethodName := ⟨RX0, "haveLed", "(I)V"⟩
abbrev cX0_certify : ByteArray := prog_2_method_5_code
def yX0_certify : MethodName := ⟨RX0, "certify", "(II)V"⟩
abbrev cX0_isValidOn : ByteArray := prog_2_method_6_code
def yX0_isValidOn : MethodName := ⟨RX0, "isValidOn", "(I)Z"⟩
def RX1 : String := "GlacierGuides$History"
def TX1 : u_T := fun k => match k with
  | 0 => ("GlacierGuides$History", "states", "[LGlacierGuides$State;", true)
  | 1 => ("GlacierGuides$History", "oldest", "I", false)
  | _ => ("GlacierGuides$History", "size", "I", false)
def tyX1 : Nat → FieldType := fun k => match k with
  | 0 => .array (.object "GlacierGuides$State")
  | 1 => .int
  | _ => .int
abbrev wsX10 : List Cond := u_ws RX1 TX1 3
theorem nmX1 : ∀ a, a < 3 → ∀ b, b < 3 → a ≠ b → (TX1 a).2.1 ≠ (TX1 b).2.1 := by decide +kernel
theorem tyX1_ok : ∀ k, k < 3 → parseFieldDescriptor (TX1 k).2.2.1 = some (tyX1 k) := by decide +kernel
abbrev cX1_init : ByteArray := prog_3_method_1_code
def yX1_init : MethodName := ⟨RX1, "<init>", "()V"⟩
abbrev cX1_record : ByteArray := prog_3_method_2_code
def yX1_record : MethodName := ⟨RX1, "record", "(LGlacierGuides$State;)V"⟩
abbrev cX1_takeBack : ByteArray := prog_3_method_3_code
def yX1_takeBack : MethodName := ⟨RX1, "takeBack", "(LGlacierGuides$State;)V"⟩
def RX2 : String := "GlacierGuides$State"
def TX2 : u_T := fun k => match k with
  | 0 => ("GlacierGuides$State", "guides", "[LGlacierGuides$Guide;", true)
  | 1 => ("GlacierGuides$State", "thicknesses", "[D", true)
  | 2 => ("GlacierGuides$State", "tours", "[LGlacierGuides$Tour;", true)
  | 3 => ("GlacierGuides$State", "guideCount", "I", false)
  | 4 => ("GlacierGuides$State", "bridgeCount", "I", false)
  | 5 => ("GlacierGuides$State", "tourCount", "I", false)
  | 6 => ("GlacierGuides$State", "day", "I", false)
  | 7 => ("GlacierGuides$State", "degreeBits", "J", false)
  | 8 => ("GlacierGuides$State", "degrees", "D", false)
  | _ => ("GlacierGuides$State", "refunded", "I", false)
def tyX2 : Nat → FieldType := fun k => match k with
  | 0 => .array (.object "GlacierGuides$Guide")
  | 1 => .array .double
  | 2 => .array (.object "GlacierGuides$Tour")
  | 3 => .int
  | 4 => .int
  | 5 => .int
  | 6 => .int
  | 7 => .long
  | 8 => .double
  | _ => .int
abbrev wsX20 : List Cond := u_ws RX2 TX2 10
theorem nmX2 : ∀ a, a < 10 → ∀ b, b < 10 → a ≠ b → (TX2 a).2.1 ≠ (TX2 b).2.1 := by decide +kernel
theorem tyX2_ok : ∀ k, k < 10 → parseFieldDescriptor (TX2 k).2.2.1 = some (tyX2 k) := by decide +kernel
abbrev cX2_init : ByteArray := prog_4_method_1_code
def yX2_init : MethodName := ⟨RX2, "<init>", "()V"⟩
abbrev cX2_copyFrom : ByteArray := prog_4_method_2_code
def yX2_copyFrom : MethodName := ⟨RX2, "copyFrom", "(LGlacierGuides$State;)V"⟩
abbrev cX2_guideAt : ByteArray := prog_4_method_3_code
def yX2_guideAt : MethodName := ⟨RX2, "guideAt", "(I)LGlacierGuides$Guide;"⟩
abbrev cX2_tourAt : ByteArray := prog_4_method_4_code
def yX2_tourAt : MethodName := ⟨RX2, "tourAt", "(I)LGlacierGuides$Tour;"⟩
abbrev cX2_hasBridge : ByteArray := prog_4_method_5_code
def yX2_hasBridge : MethodName := ⟨RX2, "hasBridge", "(I)Z"⟩
abbrev cX2_hasBridges : ByteArray := prog_4_method_6_code
def yX2_hasBridges : MethodName := ⟨RX2, "hasBridges", "(I)Z"⟩
abbrev cX2_mayLead : ByteArray := prog_4_method_7_code
def yX2_mayLead : MethodName := ⟨RX2, "mayLead", "(ILGlacierGuides$Tour;)Z"⟩
abbrev cX2_isBusyOn : ByteArray := prog_4_method_8_code
def yX2_isBusyOn : MethodName := ⟨RX2, "isBusyOn", "(II)Z"⟩
abbrev cX2_ratioOf : ByteArray := prog_4_method_9_code
def yX2_ratioOf : MethodName := ⟨RX2, "ratioOf", "(ILGlacierGuides$Tour;)I"⟩
abbrev cX2_leftAfter : ByteArray := prog_4_method_10_code
def yX2_leftAfter : MethodName := ⟨RX2, "leftAfter", "(LGlacierGuides$Tour;I)I"⟩
abbrev cX2_guestsOnRope : ByteArray := prog_4_method_11_code
def yX2_guestsOnRope : MethodName := ⟨RX2, "guestsOnRope", "(LGlacierGuides$Tour;I)I"⟩
abbrev cX2_firstOpenTourOf : ByteArray := prog_4_method_12_code
def yX2_firstOpenTourOf : MethodName := ⟨RX2, "firstOpenTourOf", "(I)I"⟩
abbrev cX2_neededBy : ByteArray := prog_4_method_13_code
def yX2_neededBy : MethodName := ⟨RX2, "neededBy", "(LGlacierGuides$Tour;)D"⟩
abbrev cX2_allBridgesHold : ByteArray := prog_4_method_14_code
def yX2_allBridgesHold : MethodName := ⟨RX2, "allBridgesHold", "(LGlacierGuides$Tour;)Z"⟩
abbrev cX2_dayLater : ByteArray := prog_4_method_15_code
def yX2_dayLater : MethodName := ⟨RX2, "dayLater", "(D)D"⟩
abbrev cX2_causeAgainst : ByteArray := prog_4_method_16_code
def yX2_causeAgainst : MethodName := ⟨RX2, "causeAgainst", "(LGlacierGuides$Tour;)I"⟩
abbrev cX2_allGuidesAreValid : ByteArray := prog_4_method_17_code
def yX2_allGuidesAreValid : MethodName := ⟨RX2, "allGuidesAreValid", "(LGlacierGuides$Tour;)Z"⟩
abbrev cX2_passDay : ByteArray := prog_4_method_18_code
def yX2_passDay : MethodName := ⟨RX2, "passDay", "()I"⟩
abbrev cX2_letGo : ByteArray := prog_4_method_19_code
def yX2_letGo : MethodName := ⟨RX2, "letGo", "(LGlacierGuides$Tour;)V"⟩
abbrev cX2_callOff : ByteArray := prog_4_method_20_code
def yX2_callOff : MethodName := ⟨RX2, "callOff", "(LGlacierGuides$Tour;I)I"⟩
abbrev cX2_payBack : ByteArray := prog_4_method_21_code
def yX2_payBack : MethodName := ⟨RX2, "payBack", "(LGlacierGuides$Tour;I)V"⟩
abbrev cX2_toursThatAre : ByteArray := prog_4_method_22_code
def yX2_toursThatAre : MethodName := ⟨RX2, "toursThatAre", "(I)I"⟩
abbrev cX2_allPaid : ByteArray := prog_4_method_23_code
def yX2_allPaid : MethodName := ⟨RX2, "allPaid", "()I"⟩
abbrev cX2_guestsGone : ByteArray := prog_4_method_24_code
def yX2_guestsGone : MethodName := ⟨RX2, "guestsGone", "()I"⟩
def RX3 : String := "GlacierGuides$Text"
def TX3 : u_T := fun k => match k with
  | 0 => ("GlacierGuides$Text", "characters", "[C", true)
  | 1 => ("GlacierGuides$Text", "length", "I", false)
  | 2 => ("GlacierGuides$Text", "command", "I", false)
  | 3 => ("GlacierGuides$Text", "first", "I", false)
  | _ => ("GlacierGuides$Text", "second", "I", false)
def tyX3 : Nat → FieldType := fun k => match k with
  | 0 => .array .char
  | 1 => .int
  | 2 => .int
  | 3 => .int
  | _ => .int
abbrev wsX30 : List Cond := u_ws RX3 TX3 5
theorem nmX3 : ∀ a, a < 5 → ∀ b, b < 5 → a ≠ b → (TX3 a).2.1 ≠ (TX3 b).2.1 := by decide +kernel
theorem tyX3_ok : ∀ k, k < 5 → parseFieldDescriptor (TX3 k).2.2.1 = some (tyX3 k) := by decide +kernel
abbrev cX3_init : ByteArray := prog_5_method_1_code
def yX3_init : MethodName := ⟨RX3, "<init>", "()V"⟩
abbrev cX3_append : ByteArray := prog_5_method_2_code
def yX3_append : MethodName := ⟨RX3, "append", "(C)V"⟩
abbrev cX3_read : ByteArray := prog_5_method_3_code
def yX3_read : MethodName := ⟨RX3, "read", "()I"⟩
abbrev cX3_wordLength : ByteArray := prog_5_method_4_code
def yX3_wordLength : MethodName := ⟨RX3, "wordLength", "()I"⟩
abbrev cX3_commandOf : ByteArray := prog_5_method_5_code
def yX3_commandOf : MethodName := ⟨RX3, "commandOf", "(I)I"⟩
abbrev cX3_isWord : ByteArray := prog_5_method_6_code
def yX3_isWord : MethodName := ⟨RX3, "isWord", "(Ljava/lang/String;I)Z"⟩
abbrev cX3_isBlankAt : ByteArray := prog_5_method_7_code
def yX3_isBlankAt : MethodName := ⟨RX3, "isBlankAt", "(I)Z"⟩
abbrev cX3_isDigitAt : ByteArray := prog_5_method_8_code
def yX3_isDigitAt : MethodName := ⟨RX3, "isDigitAt", "(I)Z"⟩
abbrev cX3_digitsAt : ByteArray := prog_5_method_9_code
def yX3_digitsAt : MethodName := ⟨RX3, "digitsAt", "(I)I"⟩
abbrev cX3_keepNumber : ByteArray := prog_5_method_10_code
def yX3_keepNumber : MethodName := ⟨RX3, "keepNumber", "(III)V"⟩
def RX4 : String := "GlacierGuides$Tour"
def TX4 : u_T := fun k => match k with
  | 0 => ("GlacierGuides$Tour", "row", "[I", true)
  | 1 => ("GlacierGuides$Tour", "day", "I", false)
  | 2 => ("GlacierGuides$Tour", "slope", "D", false)
  | 3 => ("GlacierGuides$Tour", "base", "I", false)
  | 4 => ("GlacierGuides$Tour", "price", "I", false)
  | 5 => ("GlacierGuides$Tour", "bridges", "I", false)
  | 6 => ("GlacierGuides$Tour", "guests", "I", false)
  | 7 => ("GlacierGuides$Tour", "guides", "I", false)
  | 8 => ("GlacierGuides$Tour", "paid", "I", false)
  | 9 => ("GlacierGuides$Tour", "state", "I", false)
  | _ => ("GlacierGuides$Tour", "cause", "I", false)
def tyX4 : Nat → FieldType := fun k => match k with
  | 0 => .array .int
  | 1 => .int
  | 2 => .double
  | 3 => .int
  | 4 => .int
  | 5 => .int
  | 6 => .int
  | 7 => .int
  | 8 => .int
  | 9 => .int
  | _ => .int
abbrev wsX40 : List Cond := u_ws RX4 TX4 11
theorem nmX4 : ∀ a, a < 11 → ∀ b, b < 11 → a ≠ b → (TX4 a).2.1 ≠ (TX4 b).2.1 := by decide +kernel
theorem tyX4_ok : ∀ k, k < 11 → parseFieldDescriptor (TX4 k).2.2.1 = some (tyX4 k) := by decide +kernel
abbrev cX4_init : ByteArray := prog_6_method_1_code
def yX4_init : MethodName := ⟨RX4, "<init>", "()V"⟩
abbrev cX4_begin : ByteArray := prog_6_method_2_code
def yX4_begin : MethodName := ⟨RX4, "begin", "(IDII)V"⟩
abbrev cX4_copyFrom : ByteArray := prog_6_method_3_code
def yX4_copyFrom : MethodName := ⟨RX4, "copyFrom", "(LGlacierGuides$Tour;)V"⟩
abbrev cX4_baseOf : ByteArray := prog_6_method_4_code
def yX4_baseOf : MethodName := ⟨RX4, "baseOf", "(D)I"⟩
abbrev cX4_hasInRow : ByteArray := prog_6_method_5_code
def yX4_hasInRow : MethodName := ⟨RX4, "hasInRow", "(I)Z"⟩
abbrev cX4_addToRow : ByteArray := prog_6_method_6_code
def yX4_addToRow : MethodName := ⟨RX4, "addToRow", "(I)V"⟩
abbrev cX4_takeFromRow : ByteArray := prog_6_method_7_code
def yX4_takeFromRow : MethodName := ⟨RX4, "takeFromRow", "(I)V"⟩
abbrev cX4_refundFor : ByteArray := prog_6_method_8_code
def yX4_refundFor : MethodName := ⟨RX4, "refundFor", "(II)I"⟩
abbrev cX4_shareAt : ByteArray := prog_6_method_9_code
def yX4_shareAt : MethodName := ⟨RX4, "shareAt", "(I)D"⟩
abbrev cX4_fitsInto : ByteArray := prog_6_method_10_code
def yX4_fitsInto : MethodName := ⟨RX4, "fitsInto", "(LGlacierGuides$Tour;)Z"⟩
abbrev cX4_moveInto : ByteArray := prog_6_method_11_code
def yX4_moveInto : MethodName := ⟨RX4, "moveInto", "(LGlacierGuides$Tour;)V"⟩
def RX5 : String := "GlacierGuides"
def TX5 : u_T := fun k => match k with
  | 0 => ("GlacierGuides", "now", "LGlacierGuides$State;", true)
  | 1 => ("GlacierGuides", "snapshot", "LGlacierGuides$State;", true)
  | 2 => ("GlacierGuides", "history", "LGlacierGuides$History;", true)
  | 3 => ("GlacierGuides", "text", "LGlacierGuides$Text;", true)
  | _ => ("GlacierGuides", "hasSnapshot", "Z", false)
def tyX5 : Nat → FieldType := fun k => match k with
  | 0 => .object "GlacierGuides$State"
  | 1 => .object "GlacierGuides$State"
  | 2 => .object "GlacierGuides$History"
  | 3 => .object "GlacierGuides$Text"
  | _ => .boolean
abbrev wsX50 : List Cond := u_ws RX5 TX5 5
theorem nmX5 : ∀ a, a < 5 → ∀ b, b < 5 → a ≠ b → (TX5 a).2.1 ≠ (TX5 b).2.1 := by decide +kernel
theorem tyX5_ok : ∀ k, k < 5 → parseFieldDescriptor (TX5 k).2.2.1 = some (tyX5 k) := by decide +kernel
abbrev cX5_init : ByteArray := prog_1_method_1_code
def yX5_init : MethodName := ⟨RX5, "<init>", "()V"⟩
abbrev cX5_addGuide : ByteArray := prog_1_method_2_code
def yX5_addGuide : MethodName := ⟨RX5, "addGuide", "(II)I"⟩
abbrev cX5_renew : ByteArray := prog_1_method_3_code
def yX5_renew : MethodName := ⟨RX5, "renew", "(III)I"⟩
abbrev cX5_addBridge : ByteArray := prog_1_method_4_code
def yX5_addBridge : MethodName := ⟨RX5, "addBridge", "(J)I"⟩
abbrev cX5_setTemperature : ByteArray := prog_1_method_5_code
def yX5_setTemperature : MethodName := ⟨RX5, "setTemperature", "(J)I"⟩
abbrev cX5_addTour : ByteArray := prog_1_method_6_code
def yX5_addTour : MethodName := ⟨RX5, "addTour", "(IJII)I"⟩
abbrev cX5_book : ByteArray := prog_1_method_7_code
def yX5_book : MethodName := ⟨RX5, "book", "(II)I"⟩
abbrev cX5_leave : ByteArray := prog_1_method_8_code
def yX5_leave : MethodName := ⟨RX5, "leave", "(II)I"⟩
abbrev cX5_lead : ByteArray := prog_1_method_9_code
def yX5_lead : MethodName := ⟨RX5, "lead", "(II)I"⟩
abbrev cX5_release : ByteArray := prog_1_method_10_code
def yX5_release : MethodName := ⟨RX5, "release", "(II)I"⟩
abbrev cX5_merge : ByteArray := prog_1_method_11_code
def yX5_merge : MethodName := ⟨RX5, "merge", "(II)I"⟩
abbrev cX5_cancel : ByteArray := prog_1_method_12_code
def yX5_cancel : MethodName := ⟨RX5, "cancel", "(I)I"⟩
abbrev cX5_pass : ByteArray := prog_1_method_13_code
def yX5_pass : MethodName := ⟨RX5, "pass", "(I)I"⟩
abbrev cX5_type : ByteArray := prog_1_method_14_code
def yX5_type : MethodName := ⟨RX5, "type", "(C)I"⟩
abbrev cX5_clearText : ByteArray := prog_1_method_15_code
def yX5_clearText : MethodName := ⟨RX5, "clearText", "()I"⟩
abbrev cX5_perform : ByteArray := prog_1_method_16_code
def yX5_perform : MethodName := ⟨RX5, "perform", "()I"⟩
abbrev cX5_undo : ByteArray := prog_1_method_17_code
def yX5_undo : MethodName := ⟨RX5, "undo", "()I"⟩
abbrev cX5_keep : ByteArray := prog_1_method_18_code
def yX5_keep : MethodName := ⟨RX5, "keep", "()I"⟩
abbrev cX5_restore : ByteArray := prog_1_method_19_code
def yX5_restore : MethodName := ⟨RX5, "restore", "()I"⟩
abbrev cX5_guide : ByteArray := prog_1_method_20_code
def yX5_guide : MethodName := ⟨RX5, "guide", "(II)I"⟩
abbrev cX5_tour : ByteArray := prog_1_method_21_code
def yX5_tour : MethodName := ⟨RX5, "tour", "(II)I"⟩
abbrev cX5_rope : ByteArray := prog_1_method_22_code
def yX5_rope : MethodName := ⟨RX5, "rope", "(III)I"⟩
abbrev cX5_thickness : ByteArray := prog_1_method_23_code
def yX5_thickness : MethodName := ⟨RX5, "thickness", "(I)D"⟩
abbrev cX5_foretold : ByteArray := prog_1_method_24_code
def yX5_foretold : MethodName := ⟨RX5, "foretold", "(II)D"⟩
abbrev cX5_needed : ByteArray := prog_1_method_25_code
def yX5_needed : MethodName := ⟨RX5, "needed", "(I)D"⟩
abbrev cX5_holds : ByteArray := prog_1_method_26_code
def yX5_holds : MethodName := ⟨RX5, "holds", "(II)I"⟩
abbrev cX5_bestGuide : ByteArray := prog_1_method_27_code
def yX5_bestGuide : MethodName := ⟨RX5, "bestGuide", "(I)I"⟩
abbrev cX5_takes : ByteArray := prog_1_method_28_code
def yX5_takes : MethodName := ⟨RX5, "takes", "(II)I"⟩
abbrev cX5_count : ByteArray := prog_1_method_29_code
def yX5_count : MethodName := ⟨RX5, "count", "(I)I"⟩
abbrev cX5_temperature : ByteArray := prog_1_method_30_code
def yX5_temperature : MethodName := ⟨RX5, "temperature", "()J"⟩
abbrev cX5_isClass : ByteArray := prog_1_method_31_code
def yX5_isClass : MethodName := ⟨RX5, "isClass", "(I)Z"⟩
abbrev cX5_isLastDay : ByteArray := prog_1_method_32_code
def yX5_isLastDay : MethodName := ⟨RX5, "isLastDay", "(I)Z"⟩
abbrev cX5_isGuests : ByteArray := prog_1_method_33_code
def yX5_isGuests : MethodName := ⟨RX5, "isGuests", "(I)Z"⟩
abbrev cX5_isFromZeroTo : ByteArray := prog_1_method_34_code
def yX5_isFromZeroTo : MethodName := ⟨RX5, "isFromZeroTo", "(JJ)Z"⟩
abbrev cX5_isTemperature : ByteArray := prog_1_method_35_code
def yX5_isTemperature : MethodName := ⟨RX5, "isTemperature", "(J)Z"⟩
abbrev cX5_numberOf : ByteArray := prog_1_method_36_code
def yX5_numberOf : MethodName := ⟨RX5, "numberOf", "(J)D"⟩
abbrev cX5_halved : ByteArray := prog_1_method_37_code
def yX5_halved : MethodName := ⟨RX5, "halved", "(I)D"⟩
abbrev cX5_noNumber : ByteArray := prog_1_method_38_code
def yX5_noNumber : MethodName := ⟨RX5, "noNumber", "()D"⟩
def RX6 : String := "GlacierGuidesModel"
def TX6 : u_T := fun k => match k with
  | 0 => ("GlacierGuidesModel", "now", "[I", true)
  | 1 => ("GlacierGuidesModel", "history", "[I", true)
  | 2 => ("GlacierGuidesModel", "slot", "[I", true)
  | 3 => ("GlacierGuidesModel", "real", "[D", true)
  | 4 => ("GlacierGuidesModel", "realHistory", "[D", true)
  | 5 => ("GlacierGuidesModel", "realSlot", "[D", true)
  | 6 => ("GlacierGuidesModel", "kept", "I", false)
  | 7 => ("GlacierGuidesModel", "isFilled", "Z", false)
  | 8 => ("GlacierGuidesModel", "typed", "I", false)
  | 9 => ("GlacierGuidesModel", "text", "[C", true)
  | 10 => ("GlacierGuidesModel", "at", "I", false)
  | 11 => ("GlacierGuidesModel", "readOne", "I", false)
  | _ => ("GlacierGuidesModel", "readTwo", "I", false)
def tyX6 : Nat → FieldType := fun k => match k with
  | 0 => .array .int
  | 1 => .array .int
  | 2 => .array .int
  | 3 => .array .double
  | 4 => .array .double
  | 5 => .array .double
  | 6 => .int
  | 7 => .boolean
  | 8 => .int
  | 9 => .array .char
  | 10 => .int
  | 11 => .int
  | _ => .int
abbrev wsX60 : List Cond := u_ws RX6 TX6 13
theorem nmX6 : ∀ a, a < 13 → ∀ b, b < 13 → a ≠ b → (TX6 a).2.1 ≠ (TX6 b).2.1 := by decide +kernel
theorem tyX6_ok : ∀ k, k < 13 → parseFieldDescriptor (TX6 k).2.2.1 = some (tyX6 k) := by decide +kernel
abbrev cX6_init : ByteArray := prog_8_method_1_code
def yX6_init : MethodName := ⟨RX6, "<init>", "()V"⟩
abbrev cX6_in : ByteArray := prog_8_method_2_code
def yX6_in : MethodName := ⟨RX6, "in", "(III)Z"⟩
abbrev cX6_record : ByteArray := prog_8_method_3_code
def yX6_record : MethodName := ⟨RX6, "record", "()V"⟩
abbrev cX6_noGuide : ByteArray := prog_8_method_4_code
def yX6_noGuide : MethodName := ⟨RX6, "noGuide", "(I)Z"⟩
abbrev cX6_noBridge : ByteArray := prog_8_method_5_code
def yX6_noBridge : MethodName := ⟨RX6, "noBridge", "(I)Z"⟩
abbrev cX6_noTour : ByteArray := prog_8_method_6_code
def yX6_noTour : MethodName := ⟨RX6, "noTour", "(I)Z"⟩
abbrev cX6_ofGuide : ByteArray := prog_8_method_7_code
def yX6_ofGuide : MethodName := ⟨RX6, "ofGuide", "(II)I"⟩
abbrev cX6_of : ByteArray := prog_8_method_8_code
def yX6_of : MethodName := ⟨RX6, "of", "(II)I"⟩
abbrev cX6_to : ByteArray := prog_8_method_9_code
def yX6_to : MethodName := ⟨RX6, "to", "(III)V"⟩
abbrev cX6_isOpen : ByteArray := prog_8_method_10_code
def yX6_isOpen : MethodName := ⟨RX6, "isOpen", "(I)Z"⟩
abbrev cX6_isCertificate : ByteArray := prog_8_method_11_code
def yX6_isCertificate : MethodName := ⟨RX6, "isCertificate", "(II)Z"⟩
abbrev cX6_addGuide : ByteArray := prog_8_method_12_code
def yX6_addGuide : MethodName := ⟨RX6, "addGuide", "(II)I"⟩
abbrev cX6_renew : ByteArray := prog_8_method_13_code
def yX6_renew : MethodName := ⟨RX6, "renew", "(III)I"⟩
abbrev cX6_isUpTo : ByteArray := prog_8_method_14_code
def yX6_isUpTo : MethodName := ⟨RX6, "isUpTo", "(JD)Z"⟩
abbrev cX6_addBridge : ByteArray := prog_8_method_15_code
def yX6_addBridge : MethodName := ⟨RX6, "addBridge", "(J)I"⟩
abbrev cX6_setTemperature : ByteArray := prog_8_method_16_code
def yX6_setTemperature : MethodName := ⟨RX6, "setTemperature", "(J)I"⟩
abbrev cX6_baseOf : ByteArray := prog_8_method_17_code
def yX6_baseOf : MethodName := ⟨RX6, "baseOf", "(I)I"⟩
abbrev cX6_ratio : ByteArray := prog_8_method_18_code
def yX6_ratio : MethodName := ⟨RX6, "ratio", "(II)I"⟩
abbrev cX6_guideOn : ByteArray := prog_8_method_19_code
def yX6_guideOn : MethodName := ⟨RX6, "guideOn", "(II)I"⟩
abbrev cX6_onRope : ByteArray := prog_8_method_20_code
def yX6_onRope : MethodName := ⟨RX6, "onRope", "(II)I"⟩
abbrev cX6_leftOver : ByteArray := prog_8_method_21_code
def yX6_leftOver : MethodName := ⟨RX6, "leftOver", "(I)I"⟩
abbrev cX6_neededBy : ByteArray := prog_8_method_22_code
def yX6_neededBy : MethodName := ⟨RX6, "neededBy", "(I)D"⟩
abbrev cX6_isHeld : ByteArray := prog_8_method_23_code
def yX6_isHeld : MethodName := ⟨RX6, "isHeld", "(II)Z"⟩
abbrev cX6_causeOf : ByteArray := prog_8_method_24_code
def yX6_causeOf : MethodName := ⟨RX6, "causeOf", "(I)I"⟩
abbrev cX6_addTour : ByteArray := prog_8_method_25_code
def yX6_addTour : MethodName := ⟨RX6, "addTour", "(IJII)I"⟩
abbrev cX6_book : ByteArray := prog_8_method_26_code
def yX6_book : MethodName := ⟨RX6, "book", "(II)I"⟩
abbrev cX6_refunds : ByteArray := prog_8_method_27_code
def yX6_refunds : MethodName := ⟨RX6, "refunds", "(II)V"⟩
abbrev cX6_leave : ByteArray := prog_8_method_28_code
def yX6_leave : MethodName := ⟨RX6, "leave", "(II)I"⟩
abbrev cX6_leads : ByteArray := prog_8_method_29_code
def yX6_leads : MethodName := ⟨RX6, "leads", "(II)Z"⟩
abbrev cX6_isBusy : ByteArray := prog_8_method_30_code
def yX6_isBusy : MethodName := ⟨RX6, "isBusy", "(II)Z"⟩
abbrev cX6_mayLead : ByteArray := prog_8_method_31_code
def yX6_mayLead : MethodName := ⟨RX6, "mayLead", "(II)Z"⟩
abbrev cX6_lead : ByteArray := prog_8_method_32_code
def yX6_lead : MethodName := ⟨RX6, "lead", "(II)I"⟩
abbrev cX6_release : ByteArray := prog_8_method_33_code
def yX6_release : MethodName := ⟨RX6, "release", "(II)I"⟩
abbrev cX6_mayMerge : ByteArray := prog_8_method_34_code
def yX6_mayMerge : MethodName := ⟨RX6, "mayMerge", "(II)Z"⟩
abbrev cX6_merge : ByteArray := prog_8_method_35_code
def yX6_merge : MethodName := ⟨RX6, "merge", "(II)I"⟩
abbrev cX6_cancels : ByteArray := prog_8_method_36_code
def yX6_cancels : MethodName := ⟨RX6, "cancels", "(II)I"⟩
abbrev cX6_cancel : ByteArray := prog_8_method_37_code
def yX6_cancel : MethodName := ⟨RX6, "cancel", "(I)I"⟩
abbrev cX6_goes : ByteArray := prog_8_method_38_code
def yX6_goes : MethodName := ⟨RX6, "goes", "(I)V"⟩
abbrev cX6_changed : ByteArray := prog_8_method_39_code
def yX6_changed : MethodName := ⟨RX6, "changed", "(D)D"⟩
abbrev cX6_passes : ByteArray := prog_8_method_40_code
def yX6_passes : MethodName := ⟨RX6, "passes", "()I"⟩
abbrev cX6_pass : ByteArray := prog_8_method_41_code
def yX6_pass : MethodName := ⟨RX6, "pass", "(I)I"⟩
abbrev cX6_type : ByteArray := prog_8_method_42_code
def yX6_type : MethodName := ⟨RX6, "type", "(C)I"⟩
abbrev cX6_clearText : ByteArray := prog_8_method_43_code
def yX6_clearText : MethodName := ⟨RX6, "clearText", "()I"⟩
abbrev cX6_isWord : ByteArray := prog_8_method_44_code
def yX6_isWord : MethodName := ⟨RX6, "isWord", "(ICCCC)Z"⟩
abbrev cX6_word : ByteArray := prog_8_method_45_code
def yX6_word : MethodName := ⟨RX6, "word", "()I"⟩
abbrev cX6_number : ByteArray := prog_8_method_46_code
def yX6_number : MethodName := ⟨RX6, "number", "()I"⟩
abbrev cX6_perform : ByteArray := prog_8_method_47_code
def yX6_perform : MethodName := ⟨RX6, "perform", "()I"⟩
abbrev cX6_undo : ByteArray := prog_8_method_48_code
def yX6_undo : MethodName := ⟨RX6, "undo", "()I"⟩
abbrev cX6_keep : ByteArray := prog_8_method_49_code
def yX6_keep : MethodName := ⟨RX6, "keep", "()I"⟩
abbrev cX6_restore : ByteArray := prog_8_method_50_code
def yX6_restore : MethodName := ⟨RX6, "restore", "()I"⟩
abbrev cX6_lowestTour : ByteArray := prog_8_method_51_code
def yX6_lowestTour : MethodName := ⟨RX6, "lowestTour", "(I)I"⟩
abbrev cX6_guide : ByteArray := prog_8_method_52_code
def yX6_guide : MethodName := ⟨RX6, "guide", "(II)I"⟩
abbrev cX6_tour : ByteArray := prog_8_method_53_code
def yX6_tour : MethodName := ⟨RX6, "tour", "(II)I"⟩
abbrev cX6_rope : ByteArray := prog_8_method_54_code
def yX6_rope : MethodName := ⟨RX6, "rope", "(III)I"⟩
abbrev cX6_nothing : ByteArray := prog_8_method_55_code
def yX6_nothing : MethodName := ⟨RX6, "nothing", "()D"⟩
abbrev cX6_thickness : ByteArray := prog_8_method_56_code
def yX6_thickness : MethodName := ⟨RX6, "thickness", "(I)D"⟩
abbrev cX6_foretold : ByteArray := prog_8_method_57_code
def yX6_foretold : MethodName := ⟨RX6, "foretold", "(II)D"⟩
abbrev cX6_needed : ByteArray := prog_8_method_58_code
def yX6_needed : MethodName := ⟨RX6, "needed", "(I)D"⟩
abbrev cX6_holds : ByteArray := prog_8_method_59_code
def yX6_holds : MethodName := ⟨RX6, "holds", "(II)I"⟩
abbrev cX6_bestGuide : ByteArray := prog_8_method_60_code
def yX6_bestGuide : MethodName := ⟨RX6, "bestGuide", "(I)I"⟩
abbrev cX6_takes : ByteArray := prog_8_method_61_code
def yX6_takes : MethodName := ⟨RX6, "takes", "(II)I"⟩
abbrev cX6_inState : ByteArray := prog_8_method_62_code
def yX6_inState : MethodName := ⟨RX6, "inState", "(I)I"⟩
abbrev cX6_paidAll : ByteArray := prog_8_method_63_code
def yX6_paidAll : MethodName := ⟨RX6, "paidAll", "()I"⟩
abbrev cX6_goneGuests : ByteArray := prog_8_method_64_code
def yX6_goneGuests : MethodName := ⟨RX6, "goneGuests", "()I"⟩
abbrev cX6_count : ByteArray := prog_8_method_65_code
def yX6_count : MethodName := ⟨RX6, "count", "(I)I"⟩
abbrev cX6_temperature : ByteArray := prog_8_method_66_code
def yX6_temperature : MethodName := ⟨RX6, "temperature", "()J"⟩
def RJxe99ae : String := "java/lang/Double"
def TJxe99ae : u_T := fun k => match k with
  | _ => ("", "", "", false)
def tyJxe99ae : Nat → FieldType := fun k => match k with
  | _ => .int
theorem nmJxe99ae : ∀ a, a < 0 → ∀ b, b < 0 → a ≠ b → (TJxe99ae a).2.1 ≠ (TJxe99ae b).2.1 := by decide +kernel
theorem tyJxe99ae_ok : ∀ k, k < 0 → parseFieldDescriptor (TJxe99ae k).2.2.1 = some (tyJxe99ae k) := by decide +kernel
abbrev cJxe99ae_isNaN_b9ae7 : ByteArray := prog_9_method_6_code
def yJxe99ae_isNaN_b9ae7 : MethodName := ⟨RJxe99ae, "isNaN", "(D)Z"⟩
abbrev cJxe99ae_doubleToLongBits_ccdee : ByteArray := prog_9_method_23_code
def yJxe99ae_doubleToLongBits_ccdee : MethodName := ⟨RJxe99ae, "doubleToLongBits", "(D)J"⟩
def RJ0 : String := "java/lang/String"
def TJ0 : u_T := fun k => match k with
  | _ => ("", "", "", false)
def tyJ0 : Nat → FieldType := fun k => match k with
  | _ => .int
theorem nmJ0 : ∀ a, a < 0 → ∀ b, b < 0 → a ≠ b → (TJ0 a).2.1 ≠ (TJ0 b).2.1 := by decide +kernel
theorem tyJ0_ok : ∀ k, k < 0 → parseFieldDescriptor (TJ0 k).2.2.1 = some (tyJ0 k) := by decide +kernel
abbrev cJ0_length_8abf5 : ByteArray := prog_10_method_54_code
def yJ0_length_8abf5 : MethodName := ⟨RJ0, "length", "()I"⟩
abbrev cJ0_charAt_5068e : ByteArray := prog_10_method_56_code
def yJ0_charAt_5068e : MethodName := ⟨RJ0, "charAt", "(I)C"⟩
abbrev cJ0_coder_7d493 : ByteArray := prog_10_method_152_code
def yJ0_coder_7d493 : MethodName := ⟨RJ0, "coder", "()B"⟩
abbrev cJ0_isLatin1_aae02 : ByteArray := prog_10_method_154_code
def yJ0_isLatin1_aae02 : MethodName := ⟨RJ0, "isLatin1", "()Z"⟩
abbrev cJ0_checkIndex_df160 : ByteArray := prog_10_method_155_code
def yJ0_checkIndex_df160 : MethodName := ⟨RJ0, "checkIndex", "(II)V"⟩
def RJ1 : String := "java/lang/StringLatin1"
def TJ1 : u_T := fun k => match k with
  | _ => ("", "", "", false)
def tyJ1 : Nat → FieldType := fun k => match k with
  | _ => .int
theorem nmJ1 : ∀ a, a < 0 → ∀ b, b < 0 → a ≠ b → (TJ1 a).2.1 ≠ (TJ1 b).2.1 := by decide +kernel
theorem tyJ1_ok : ∀ k, k < 0 → parseFieldDescriptor (TJ1 k).2.2.1 = some (tyJ1 k) := by decide +kernel
abbrev cJ1_charAt_3b067 : ByteArray := prog_11_method_2_code
def yJ1_charAt_3b067 : MethodName := ⟨RJ1, "charAt", "([BI)C"⟩
def RJ2 : String := "java/lang/StringUTF16"
def TJ2 : u_T := fun k => match k with
  | _ => ("", "", "", false)
def tyJ2 : Nat → FieldType := fun k => match k with
  | _ => .int
theorem nmJ2 : ∀ a, a < 0 → ∀ b, b < 0 → a ≠ b → (TJ2 a).2.1 ≠ (TJ2 b).2.1 := by decide +kernel
theorem tyJ2_ok : ∀ k, k < 0 → parseFieldDescriptor (TJ2 k).2.2.1 = some (tyJ2 k) := by decide +kernel
abbrev cJ2_getChar_3b067 : ByteArray := prog_12_method_5_code
def yJ2_getChar_3b067 : MethodName := ⟨RJ2, "getChar", "([BI)C"⟩
abbrev cJ2_length_9d52b : ByteArray := prog_12_method_6_code
def yJ2_length_9d52b : MethodName := ⟨RJ2, "length", "([B)I"⟩
abbrev cJ2_charAt_3b067 : ByteArray := prog_12_method_83_code
def yJ2_charAt_3b067 : MethodName := ⟨RJ2, "charAt", "([BI)C"⟩
abbrev cJ2_checkIndex_2214a : ByteArray := prog_12_method_91_code
def yJ2_checkIndex_2214a : MethodName := ⟨RJ2, "checkIndex", "(I[B)V"⟩
def RJ10 : String := "java/lang/System"
def TJ10 : u_T := fun k => match k with
  | _ => ("", "", "", false)
def tyJ10 : Nat → FieldType := fun k => match k with
  | _ => .int
theorem nmJ10 : ∀ a, a < 0 → ∀ b, b < 0 → a ≠ b → (TJ10 a).2.1 ≠ (TJ10 b).2.1 := by decide +kernel
theorem tyJ10_ok : ∀ k, k < 0 → parseFieldDescriptor (TJ10 k).2.2.1 = some (tyJ10 k) := by decide +kernel
def RJ3 : String := "jdk/internal/util/Preconditions"
def TJ3 : u_T := fun k => match k with
  | _ => ("", "", "", false)
def tyJ3 : Nat → FieldType := fun k => match k with
  | _ => .int
theorem nmJ3 : ∀ a, a < 0 → ∀ b, b < 0 → a ≠ b → (TJ3 a).2.1 ≠ (TJ3 b).2.1 := by decide +kernel
theorem tyJ3_ok : ∀ k, k < 0 → parseFieldDescriptor (TJ3 k).2.2.1 = some (tyJ3 k) := by decide +kernel
abbrev cJ3_checkIndex_8e157 : ByteArray := prog_14_method_11_code
def yJ3_checkIndex_8e157 : MethodName := ⟨RJ3, "checkIndex", "(IILjava/util/function/BiFunction;)I"⟩
def RL : String := "GlacierGuidesLaw"
abbrev cL_law : ByteArray := code
def yL_law : MethodName := ⟨RL, "law", "([I)Z"⟩
abbrev vwCl : List vw_C := [(RX0, TX0, 4), (RX1, TX1, 3), (RX2, TX2, 10), (RX3, TX3, 5), (RX4, TX4, 11), (RX5, TX5, 5), (RX6, TX6, 13)]
end
section
def wsL_law_r1 : List Cond := [Cond.classLink RL 7 RX5, Cond.instantiable RX5 5, Cond.initialized RX5, Cond.classLink RL 10 RX6, Cond.instantiable RX6 13, Cond.initialized RX6, Cond.constantLong RL 23 (4294967295), Cond.methodLink RL 9 yX5_init, Cond.instanceMethod yX5_init, Cond.code yX5_init cX5_init 1 none, Cond.methodLink RX5 1 objectInit, Cond.instanceMethod objectInit, Cond.code objectInit ⟨#[0xb1]⟩ 1 none, Cond.classLink RX5 7 RX2, Cond.instantiable RX2 10, Cond.initialized RX2, Cond.fieldLink RX5 10 "GlacierGuides" "now" "LGlacierGuides$State;", Cond.fieldLink RX5 16 "GlacierGuides" "snapshot" "LGlacierGuides$State;", Cond.classLink RX5 19 RX1, Cond.instantiable RX1 3, Cond.initialized RX1, Cond.fieldLink RX5 22 "GlacierGuides" "history" "LGlacierGuides$History;", Cond.classLink RX5 26 RX3, Cond.instantiable RX3 5]
def wsL_law_r2 : List Cond := [Cond.initialized RX3, Cond.fieldLink RX5 29 "GlacierGuides" "text" "LGlacierGuides$Text;", Cond.methodLink RX5 9 yX2_init, Cond.instanceMethod yX2_init, Cond.code yX2_init cX2_init 2 none, Cond.methodLink RX2 3 objectInit, Cond.classLink RX2 9 RX0, Cond.fieldLink RX2 11 "GlacierGuides$State" "guides" "[LGlacierGuides$Guide;", Cond.instantiable RX0 4, Cond.initialized RX0, Cond.arrayClass .double, Cond.fieldLink RX2 18 "GlacierGuides$State" "thicknesses" "[D", Cond.classLink RX2 22 RX4, Cond.fieldLink RX2 24 "GlacierGuides$State" "tours" "[LGlacierGuides$Tour;", Cond.instantiable RX4 11, Cond.initialized RX4, Cond.instanceMethod yX0_init, Cond.code yX0_init cX0_init 1 none, Cond.methodLink RX0 1 objectInit, Cond.methodLink RX2 28 yX4_init, Cond.instanceMethod yX4_init, Cond.code yX4_init cX4_init 1 none, Cond.methodLink RX4 3 objectInit, Cond.arrayClass .int]
def wsL_law_r3 : List Cond := [Cond.fieldLink RX4 9 "GlacierGuides$Tour" "row" "[I", Cond.methodLink RX5 21 yX1_init, Cond.instanceMethod yX1_init, Cond.code yX1_init cX1_init 2 none, Cond.methodLink RX1 3 objectInit, Cond.classLink RX1 9 RX2, Cond.fieldLink RX1 11 "GlacierGuides$History" "states" "[LGlacierGuides$State;", Cond.methodLink RX1 17 yX2_init, Cond.methodLink RX5 28 yX3_init, Cond.instanceMethod yX3_init, Cond.code yX3_init cX3_init 1 none, Cond.methodLink RX3 3 objectInit, Cond.arrayClass .char, Cond.fieldLink RX3 9 "GlacierGuides$Text" "characters" "[C", Cond.methodLink RL 12 yX6_init, Cond.instanceMethod yX6_init, Cond.code yX6_init cX6_init 1 none, Cond.methodLink RX6 1 objectInit, Cond.fieldLink RX6 7 "GlacierGuidesModel" "now" "[I", Cond.fieldLink RX6 13 "GlacierGuidesModel" "history" "[I", Cond.fieldLink RX6 16 "GlacierGuidesModel" "slot" "[I", Cond.fieldLink RX6 19 "GlacierGuidesModel" "real" "[D", Cond.fieldLink RX6 23 "GlacierGuidesModel" "realHistory" "[D", Cond.fieldLink RX6 26 "GlacierGuidesModel" "realSlot" "[D"]
def wsL_law_r4 : List Cond := [Cond.fieldLink RX6 29 "GlacierGuidesModel" "text" "[C", Cond.methodLink RL 13 yX5_addGuide, Cond.instanceMethod yX5_addGuide, Cond.selects RX5 yX5_addGuide yX5_addGuide, Cond.code yX5_addGuide cX5_addGuide 4 (some .int), Cond.fieldLink RX5 40 "GlacierGuides$State" "guideCount" "I", Cond.fieldLink RX5 48 "GlacierGuides$State" "guides" "[LGlacierGuides$Guide;", Cond.methodLink RX5 33 yX5_isClass, Cond.static yX5_isClass, Cond.code yX5_isClass cX5_isClass 1 (some .boolean), Cond.methodLink RX5 37 yX5_isLastDay, Cond.static yX5_isLastDay, Cond.code yX5_isLastDay cX5_isLastDay 1 (some .boolean), Cond.methodLink RX5 44 yX1_record, Cond.instanceMethod yX1_record, Cond.selects RX1 yX1_record yX1_record, Cond.code yX1_record cX1_record 2 none, Cond.fieldLink RX1 18 "GlacierGuides$History" "size" "I", Cond.fieldLink RX1 22 "GlacierGuides$History" "oldest" "I", Cond.methodLink RX1 25 yX2_copyFrom, Cond.instanceMethod yX2_copyFrom, Cond.selects RX2 yX2_copyFrom yX2_copyFrom, Cond.code yX2_copyFrom cX2_copyFrom 3 none, Cond.fieldLink RX2 29 "GlacierGuides$State" "guideCount" "I"]
def wsL_law_r5 : List Cond := [Cond.methodLink RX2 37 arraycopyName, Cond.native arraycopyName, Cond.static arraycopyName, Cond.initialized "java/lang/System", Cond.fieldLink RX2 43 "GlacierGuides$State" "tourCount" "I", Cond.fieldLink RX2 49 "GlacierGuides$State" "bridgeCount" "I", Cond.fieldLink RX2 52 "GlacierGuides$State" "day" "I", Cond.fieldLink RX2 55 "GlacierGuides$State" "degreeBits" "J", Cond.fieldLink RX2 59 "GlacierGuides$State" "degrees" "D", Cond.fieldLink RX2 63 "GlacierGuides$State" "refunded" "I", Cond.methodLink RX2 33 yX0_copyFrom, Cond.instanceMethod yX0_copyFrom, Cond.selects RX0 yX0_copyFrom yX0_copyFrom, Cond.code yX0_copyFrom cX0_copyFrom 2 none, Cond.fieldLink RX0 20 "GlacierGuides$Guide" "kind" "I", Cond.fieldLink RX0 23 "GlacierGuides$Guide" "until" "I", Cond.fieldLink RX0 13 "GlacierGuides$Guide" "toursLed" "I", Cond.fieldLink RX0 17 "GlacierGuides$Guide" "guestsLed" "I", Cond.methodLink RX0 7 yX0_certify, Cond.instanceMethod yX0_certify, Cond.selects RX0 yX0_certify yX0_certify, Cond.code yX0_certify cX0_certify 3 none, Cond.methodLink RX2 46 yX4_copyFrom, Cond.instanceMethod yX4_copyFrom]
def wsL_law_r6 : List Cond := [Cond.selects RX4 yX4_copyFrom yX4_copyFrom, Cond.code yX4_copyFrom cX4_copyFrom 2 none, Cond.methodLink RX4 51 arraycopyName, Cond.fieldLink RX4 15 "GlacierGuides$Tour" "day" "I", Cond.fieldLink RX4 19 "GlacierGuides$Tour" "slope" "D", Cond.fieldLink RX4 27 "GlacierGuides$Tour" "base" "I", Cond.fieldLink RX4 30 "GlacierGuides$Tour" "price" "I", Cond.fieldLink RX4 33 "GlacierGuides$Tour" "bridges" "I", Cond.fieldLink RX4 36 "GlacierGuides$Tour" "guests" "I", Cond.fieldLink RX4 39 "GlacierGuides$Tour" "guides" "I", Cond.fieldLink RX4 42 "GlacierGuides$Tour" "paid" "I", Cond.fieldLink RX4 45 "GlacierGuides$Tour" "state" "I", Cond.fieldLink RX4 48 "GlacierGuides$Tour" "cause" "I", Cond.methodLink RX5 52 yX0_begin, Cond.instanceMethod yX0_begin, Cond.selects RX0 yX0_begin yX0_begin, Cond.code yX0_begin cX0_begin 3 none, Cond.methodLink RL 17 yX6_addGuide, Cond.instanceMethod yX6_addGuide, Cond.selects RX6 yX6_addGuide yX6_addGuide, Cond.code yX6_addGuide cX6_addGuide 4 (some .int), Cond.methodLink RX6 45 yX6_isCertificate, Cond.static yX6_isCertificate, Cond.code yX6_isCertificate cX6_isCertificate 2 (some .boolean)]
def wsL_law_r7 : List Cond := [Cond.methodLink RX6 37 yX6_in, Cond.static yX6_in, Cond.code yX6_in cX6_in 3 (some .boolean), Cond.methodLink RX6 49 yX6_record, Cond.instanceMethod yX6_record, Cond.selects RX6 yX6_record yX6_record, Cond.code yX6_record cX6_record 2 none, Cond.fieldLink RX6 33 "GlacierGuidesModel" "kept" "I", Cond.methodLink RL 18 yX5_renew, Cond.instanceMethod yX5_renew, Cond.selects RX5 yX5_renew yX5_renew, Cond.code yX5_renew cX5_renew 6 (some .int), Cond.fieldLink RX5 62 "GlacierGuides$Guide" "kind" "I", Cond.fieldLink RX5 65 "GlacierGuides$Guide" "until" "I", Cond.methodLink RX5 58 yX2_guideAt, Cond.instanceMethod yX2_guideAt, Cond.selects RX2 yX2_guideAt yX2_guideAt, Cond.code yX2_guideAt cX2_guideAt 2 (some (.object "GlacierGuides$Guide")), Cond.methodLink RX5 68 yX0_certify, Cond.methodLink RL 22 yX6_renew, Cond.instanceMethod yX6_renew, Cond.selects RX6 yX6_renew yX6_renew, Cond.code yX6_renew cX6_renew 5 (some .int), Cond.methodLink RX6 52 yX6_noGuide]
def wsL_law_r8 : List Cond := [Cond.instanceMethod yX6_noGuide, Cond.selects RX6 yX6_noGuide yX6_noGuide, Cond.code yX6_noGuide cX6_noGuide 2 (some .boolean), Cond.methodLink RX6 56 yX6_ofGuide, Cond.instanceMethod yX6_ofGuide, Cond.selects RX6 yX6_ofGuide yX6_ofGuide, Cond.code yX6_ofGuide cX6_ofGuide 3 (some .int), Cond.methodLink RL 25 yX5_addBridge, Cond.instanceMethod yX5_addBridge, Cond.selects RX5 yX5_addBridge yX5_addBridge, Cond.code yX5_addBridge cX5_addBridge 4 (some .int), Cond.constantLong RX5 71 (4647503709213818880), Cond.fieldLink RX5 77 "GlacierGuides$State" "bridgeCount" "I", Cond.fieldLink RX5 80 "GlacierGuides$State" "thicknesses" "[D", Cond.methodLink RX5 73 yX5_isFromZeroTo, Cond.static yX5_isFromZeroTo, Cond.code yX5_isFromZeroTo cX5_isFromZeroTo 4 (some .boolean), Cond.methodLink RX5 84 yX5_numberOf, Cond.static yX5_numberOf, Cond.code yX5_numberOf cX5_numberOf 7 (some .double), Cond.constantLong RX5 300 (4503599627370495), Cond.constantLong RX5 306 (4503599627370496), Cond.methodLink RX5 302 yX5_halved, Cond.static yX5_halved]
def wsL_law_r9 : List Cond := [Cond.code yX5_halved cX5_halved 6 (some .double), Cond.constantDouble RX5 308 (4602678819172646912), Cond.methodLink RL 29 yX6_addBridge, Cond.instanceMethod yX6_addBridge, Cond.selects RX6 yX6_addBridge yX6_addBridge, Cond.code yX6_addBridge cX6_addBridge 3 (some .int), Cond.constantDouble RX6 67 (4647503709213818880), Cond.methodLink RX6 61 ⟨"java/lang/Double", "longBitsToDouble", "(J)D"⟩, Cond.native ⟨"java/lang/Double", "longBitsToDouble", "(J)D"⟩, Cond.static ⟨"java/lang/Double", "longBitsToDouble", "(J)D"⟩, Cond.initialized "java/lang/Double", Cond.methodLink RX6 69 yX6_isUpTo, Cond.static yX6_isUpTo, Cond.code yX6_isUpTo cX6_isUpTo 6 (some .boolean), Cond.constantLong RX6 59 (9218868437227405312), Cond.methodLink RL 30 yX5_setTemperature, Cond.instanceMethod yX5_setTemperature, Cond.selects RX5 yX5_setTemperature yX5_setTemperature, Cond.code yX5_setTemperature cX5_setTemperature 5 (some .int), Cond.fieldLink RX5 92 "GlacierGuides$State" "degrees" "D", Cond.fieldLink RX5 96 "GlacierGuides$State" "degreeBits" "J", Cond.methodLink RX5 88 yX5_isTemperature, Cond.static yX5_isTemperature, Cond.code yX5_isTemperature cX5_isTemperature 2 (some .boolean)]
def wsL_law_r10 : List Cond := [Cond.constantLong RX5 294 (4630826316843712512), Cond.constantLong RX5 296 (9223372036854775807), Cond.constantLong RX5 298 (4629137466983448576), Cond.methodLink RL 33 yX6_setTemperature, Cond.instanceMethod yX6_setTemperature, Cond.selects RX6 yX6_setTemperature yX6_setTemperature, Cond.code yX6_setTemperature cX6_setTemperature 6 (some .int), Cond.constantLong RX6 73 (9223372036854775807), Cond.constantDouble RX6 75 (13854198353698488320), Cond.constantDouble RX6 77 (4629137466983448576), Cond.methodLink RL 34 yX5_addTour, Cond.instanceMethod yX5_addTour, Cond.selects RX5 yX5_addTour yX5_addTour, Cond.code yX5_addTour cX5_addTour 7 (some .int), Cond.fieldLink RX5 100 "GlacierGuides$State" "day" "I", Cond.constantLong RX5 103 (4633641066610819072), Cond.fieldLink RX5 108 "GlacierGuides$State" "tourCount" "I", Cond.fieldLink RX5 111 "GlacierGuides$State" "tours" "[LGlacierGuides$Tour;", Cond.methodLink RX5 105 yX2_hasBridges, Cond.instanceMethod yX2_hasBridges, Cond.selects RX2 yX2_hasBridges yX2_hasBridges, Cond.code yX2_hasBridges cX2_hasBridges 2 (some .boolean), Cond.methodLink RX5 115 yX4_begin, Cond.instanceMethod yX4_begin]
def wsL_law_r11 : List Cond := [Cond.selects RX4 yX4_begin yX4_begin, Cond.code yX4_begin cX4_begin 6 none, Cond.methodLink RX4 23 yX4_baseOf, Cond.static yX4_baseOf, Cond.code yX4_baseOf cX4_baseOf 2 (some .int), Cond.constantDouble RX4 57 (4624633867356078080), Cond.constantDouble RX4 59 (4629137466983448576), Cond.constantDouble RX4 61 (4631530004285489152), Cond.methodLink RL 38 yX6_addTour, Cond.instanceMethod yX6_addTour, Cond.selects RX6 yX6_addTour yX6_addTour, Cond.code yX6_addTour cX6_addTour 8 (some .int), Cond.constantDouble RX6 108 (4633641066610819072), Cond.methodLink RX6 110 yX6_to, Cond.instanceMethod yX6_to, Cond.selects RX6 yX6_to yX6_to, Cond.code yX6_to cX6_to 4 none, Cond.methodLink RL 39 yX5_book, Cond.instanceMethod yX5_book, Cond.selects RX5 yX5_book yX5_book, Cond.code yX5_book cX5_book 5 (some .int), Cond.fieldLink RX5 127 "GlacierGuides$Tour" "state" "I", Cond.fieldLink RX5 130 "GlacierGuides$Tour" "guests" "I", Cond.fieldLink RX5 133 "GlacierGuides$Tour" "price" "I"]
def wsL_law_r12 : List Cond := [Cond.fieldLink RX5 136 "GlacierGuides$Tour" "paid" "I", Cond.methodLink RX5 120 yX2_tourAt, Cond.instanceMethod yX2_tourAt, Cond.selects RX2 yX2_tourAt yX2_tourAt, Cond.code yX2_tourAt cX2_tourAt 2 (some (.object "GlacierGuides$Tour")), Cond.methodLink RX5 124 yX5_isGuests, Cond.static yX5_isGuests, Cond.code yX5_isGuests cX5_isGuests 1 (some .boolean), Cond.methodLink RL 42 yX6_book, Cond.instanceMethod yX6_book, Cond.selects RX6 yX6_book yX6_book, Cond.code yX6_book cX6_book 4 (some .int), Cond.methodLink RX6 114 yX6_noTour, Cond.instanceMethod yX6_noTour, Cond.selects RX6 yX6_noTour yX6_noTour, Cond.code yX6_noTour cX6_noTour 2 (some .boolean), Cond.methodLink RX6 117 yX6_isOpen, Cond.instanceMethod yX6_isOpen, Cond.selects RX6 yX6_isOpen yX6_isOpen, Cond.code yX6_isOpen cX6_isOpen 2 (some .boolean), Cond.methodLink RX6 41 yX6_of, Cond.instanceMethod yX6_of, Cond.selects RX6 yX6_of yX6_of, Cond.code yX6_of cX6_of 3 (some .int)]
def wsL_law_r13 : List Cond := [Cond.methodLink RL 43 yX5_leave, Cond.instanceMethod yX5_leave, Cond.selects RX5 yX5_leave yX5_leave, Cond.code yX5_leave cX5_leave 5 (some .int), Cond.methodLink RX5 139 yX4_refundFor, Cond.instanceMethod yX4_refundFor, Cond.selects RX4 yX4_refundFor yX4_refundFor, Cond.code yX4_refundFor cX4_refundFor 3 (some .int), Cond.methodLink RX4 63 yX4_shareAt, Cond.static yX4_shareAt, Cond.code yX4_shareAt cX4_shareAt 1 (some .double), Cond.constantDouble RX4 67 (4604930618986332160), Cond.constantDouble RX4 69 (4602678819172646912), Cond.methodLink RX5 143 yX2_payBack, Cond.instanceMethod yX2_payBack, Cond.selects RX2 yX2_payBack yX2_payBack, Cond.code yX2_payBack cX2_payBack 3 none, Cond.fieldLink RX2 149 "GlacierGuides$Tour" "paid" "I", Cond.methodLink RL 46 yX6_leave, Cond.instanceMethod yX6_leave, Cond.selects RX6 yX6_leave yX6_leave, Cond.code yX6_leave cX6_leave 7 (some .int), Cond.constantDouble RX6 120 (4604930618986332160), Cond.constantDouble RX6 122 (4602678819172646912)]
def wsL_law_r14 : List Cond := [Cond.methodLink RX6 124 yX6_refunds, Cond.instanceMethod yX6_refunds, Cond.selects RX6 yX6_refunds yX6_refunds, Cond.code yX6_refunds cX6_refunds 3 none, Cond.methodLink RL 47 yX5_lead, Cond.instanceMethod yX5_lead, Cond.selects RX5 yX5_lead yX5_lead, Cond.code yX5_lead cX5_lead 4 (some .int), Cond.fieldLink RX5 151 "GlacierGuides$Tour" "guides" "I", Cond.methodLink RX5 147 yX2_mayLead, Cond.instanceMethod yX2_mayLead, Cond.selects RX2 yX2_mayLead yX2_mayLead, Cond.code yX2_mayLead cX2_mayLead 3 (some .boolean), Cond.fieldLink RX2 66 "GlacierGuides$Tour" "state" "I", Cond.fieldLink RX2 69 "GlacierGuides$Tour" "day" "I", Cond.methodLink RX2 70 yX0_isValidOn, Cond.instanceMethod yX0_isValidOn, Cond.selects RX0 yX0_isValidOn yX0_isValidOn, Cond.code yX0_isValidOn cX0_isValidOn 2 (some .boolean), Cond.methodLink RX2 74 yX2_isBusyOn, Cond.instanceMethod yX2_isBusyOn, Cond.selects RX2 yX2_isBusyOn yX2_isBusyOn, Cond.code yX2_isBusyOn cX2_isBusyOn 4 (some .boolean), Cond.methodLink RX2 78 yX4_hasInRow]
def wsL_law_r15 : List Cond := [Cond.instanceMethod yX4_hasInRow, Cond.selects RX4 yX4_hasInRow yX4_hasInRow, Cond.code yX4_hasInRow cX4_hasInRow 3 (some .boolean), Cond.methodLink RX5 153 yX4_addToRow, Cond.instanceMethod yX4_addToRow, Cond.selects RX4 yX4_addToRow yX4_addToRow, Cond.code yX4_addToRow cX4_addToRow 2 none, Cond.methodLink RX5 157 yX2_ratioOf, Cond.instanceMethod yX2_ratioOf, Cond.selects RX2 yX2_ratioOf yX2_ratioOf, Cond.code yX2_ratioOf cX2_ratioOf 4 (some .int), Cond.fieldLink RX2 81 "GlacierGuides$Tour" "base" "I", Cond.fieldLink RX2 84 "GlacierGuides$Guide" "kind" "I", Cond.methodLink RL 50 yX6_lead, Cond.instanceMethod yX6_lead, Cond.selects RX6 yX6_lead yX6_lead, Cond.code yX6_lead cX6_lead 3 (some .int), Cond.methodLink RX6 134 yX6_mayLead, Cond.instanceMethod yX6_mayLead, Cond.selects RX6 yX6_mayLead yX6_mayLead, Cond.code yX6_mayLead cX6_mayLead 3 (some .boolean), Cond.methodLink RX6 131 yX6_isBusy, Cond.instanceMethod yX6_isBusy, Cond.selects RX6 yX6_isBusy yX6_isBusy]
def wsL_law_r16 : List Cond := [Cond.code yX6_isBusy cX6_isBusy 4 (some .boolean), Cond.methodLink RX6 128 yX6_leads, Cond.instanceMethod yX6_leads, Cond.selects RX6 yX6_leads yX6_leads, Cond.code yX6_leads cX6_leads 4 (some .boolean), Cond.methodLink RX6 87 yX6_guideOn, Cond.instanceMethod yX6_guideOn, Cond.selects RX6 yX6_guideOn yX6_guideOn, Cond.code yX6_guideOn cX6_guideOn 3 (some .int), Cond.methodLink RX6 90 yX6_ratio, Cond.instanceMethod yX6_ratio, Cond.selects RX6 yX6_ratio yX6_ratio, Cond.code yX6_ratio cX6_ratio 4 (some .int), Cond.methodLink RX6 83 yX6_baseOf, Cond.instanceMethod yX6_baseOf, Cond.selects RX6 yX6_baseOf yX6_baseOf, Cond.code yX6_baseOf cX6_baseOf 4 (some .int), Cond.constantDouble RX6 79 (4624633867356078080), Cond.constantDouble RX6 81 (4631530004285489152), Cond.methodLink RL 51 yX5_release, Cond.instanceMethod yX5_release, Cond.selects RX5 yX5_release yX5_release, Cond.code yX5_release cX5_release 4 (some .int), Cond.methodLink RX5 161 yX4_hasInRow]
def wsL_law_r17 : List Cond := [Cond.methodLink RX5 164 yX4_takeFromRow, Cond.instanceMethod yX4_takeFromRow, Cond.selects RX4 yX4_takeFromRow yX4_takeFromRow, Cond.code yX4_takeFromRow cX4_takeFromRow 4 none, Cond.methodLink RX5 167 yX2_leftAfter, Cond.instanceMethod yX2_leftAfter, Cond.selects RX2 yX2_leftAfter yX2_leftAfter, Cond.code yX2_leftAfter cX2_leftAfter 5 (some .int), Cond.fieldLink RX2 87 "GlacierGuides$Tour" "guests" "I", Cond.fieldLink RX2 90 "GlacierGuides$Tour" "row" "[I", Cond.methodLink RX2 94 yX2_ratioOf, Cond.methodLink RL 54 yX6_release, Cond.instanceMethod yX6_release, Cond.selects RX6 yX6_release yX6_release, Cond.code yX6_release cX6_release 5 (some .int), Cond.methodLink RX6 105 yX6_leftOver, Cond.instanceMethod yX6_leftOver, Cond.selects RX6 yX6_leftOver yX6_leftOver, Cond.code yX6_leftOver cX6_leftOver 2 (some .int), Cond.methodLink RX6 93 yX6_onRope, Cond.instanceMethod yX6_onRope, Cond.selects RX6 yX6_onRope yX6_onRope, Cond.code yX6_onRope cX6_onRope 6 (some .int), Cond.methodLink RL 55 yX5_merge]
def wsL_law_r18 : List Cond := [Cond.instanceMethod yX5_merge, Cond.selects RX5 yX5_merge yX5_merge, Cond.code yX5_merge cX5_merge 7 (some .int), Cond.methodLink RX5 171 yX4_fitsInto, Cond.instanceMethod yX4_fitsInto, Cond.selects RX4 yX4_fitsInto yX4_fitsInto, Cond.code yX4_fitsInto cX4_fitsInto 2 (some .boolean), Cond.methodLink RX5 175 yX4_moveInto, Cond.instanceMethod yX4_moveInto, Cond.selects RX4 yX4_moveInto yX4_moveInto, Cond.code yX4_moveInto cX4_moveInto 3 none, Cond.methodLink RX4 71 yX4_addToRow, Cond.methodLink RL 58 yX6_merge, Cond.instanceMethod yX6_merge, Cond.selects RX6 yX6_merge yX6_merge, Cond.code yX6_merge cX6_merge 6 (some .int), Cond.methodLink RX6 137 yX6_mayMerge, Cond.instanceMethod yX6_mayMerge, Cond.selects RX6 yX6_mayMerge yX6_mayMerge, Cond.code yX6_mayMerge cX6_mayMerge 5 (some .boolean), Cond.methodLink RL 59 yX5_cancel, Cond.instanceMethod yX5_cancel, Cond.selects RX5 yX5_cancel yX5_cancel, Cond.code yX5_cancel cX5_cancel 3 (some .int)]
def wsL_law_r19 : List Cond := [Cond.methodLink RX5 179 yX2_callOff, Cond.instanceMethod yX2_callOff, Cond.selects RX2 yX2_callOff yX2_callOff, Cond.code yX2_callOff cX2_callOff 4 (some .int), Cond.fieldLink RX2 152 "GlacierGuides$Tour" "cause" "I", Cond.methodLink RX2 155 yX2_payBack, Cond.methodLink RL 63 yX6_cancel, Cond.instanceMethod yX6_cancel, Cond.selects RX6 yX6_cancel yX6_cancel, Cond.code yX6_cancel cX6_cancel 2 (some .int), Cond.methodLink RX6 140 yX6_cancels, Cond.instanceMethod yX6_cancels, Cond.selects RX6 yX6_cancels yX6_cancels, Cond.code yX6_cancels cX6_cancels 4 (some .int), Cond.methodLink RL 64 yX5_pass, Cond.instanceMethod yX5_pass, Cond.selects RX5 yX5_pass yX5_pass, Cond.code yX5_pass cX5_pass 4 (some .int), Cond.methodLink RX5 182 yX2_passDay, Cond.instanceMethod yX2_passDay, Cond.selects RX2 yX2_passDay yX2_passDay, Cond.code yX2_passDay cX2_passDay 5 (some .int), Cond.methodLink RX2 128 yX2_causeAgainst, Cond.instanceMethod yX2_causeAgainst]
def wsL_law_r20 : List Cond := [Cond.selects RX2 yX2_causeAgainst yX2_causeAgainst, Cond.code yX2_causeAgainst cX2_causeAgainst 2 (some .int), Cond.fieldLink RX2 102 "GlacierGuides$Tour" "guides" "I", Cond.methodLink RX2 121 yX2_allBridgesHold, Cond.instanceMethod yX2_allBridgesHold, Cond.selects RX2 yX2_allBridgesHold yX2_allBridgesHold, Cond.code yX2_allBridgesHold cX2_allBridgesHold 5 (some .boolean), Cond.fieldLink RX2 112 "GlacierGuides$Tour" "bridges" "I", Cond.methodLink RX2 108 yX2_neededBy, Cond.instanceMethod yX2_neededBy, Cond.selects RX2 yX2_neededBy yX2_neededBy, Cond.code yX2_neededBy cX2_neededBy 6 (some .double), Cond.constantDouble RX2 104 (4624633867356078080), Cond.constantDouble RX2 106 (4612811918334230528), Cond.methodLink RX2 98 yX2_leftAfter, Cond.methodLink RX2 125 yX2_allGuidesAreValid, Cond.instanceMethod yX2_allGuidesAreValid, Cond.selects RX2 yX2_allGuidesAreValid yX2_allGuidesAreValid, Cond.code yX2_allGuidesAreValid cX2_allGuidesAreValid 3 (some .boolean), Cond.methodLink RX2 132 yX2_letGo, Cond.instanceMethod yX2_letGo, Cond.selects RX2 yX2_letGo yX2_letGo, Cond.code yX2_letGo cX2_letGo 3 none, Cond.methodLink RX2 142 yX2_guestsOnRope]
def wsL_law_r21 : List Cond := [Cond.instanceMethod yX2_guestsOnRope, Cond.selects RX2 yX2_guestsOnRope yX2_guestsOnRope, Cond.code yX2_guestsOnRope cX2_guestsOnRope 3 (some .int), Cond.methodLink RX2 145 yX0_haveLed, Cond.instanceMethod yX0_haveLed, Cond.selects RX0 yX0_haveLed yX0_haveLed, Cond.code yX0_haveLed cX0_haveLed 2 none, Cond.methodLink RX2 135 yX2_callOff, Cond.methodLink RX2 138 yX2_dayLater, Cond.instanceMethod yX2_dayLater, Cond.selects RX2 yX2_dayLater yX2_dayLater, Cond.code yX2_dayLater cX2_dayLater 5 (some .double), Cond.constantDouble RX2 115 (4609434218613702656), Cond.constantDouble RX2 117 (4598175219545276416), Cond.constantDouble RX2 119 (4647503709213818880), Cond.methodLink RL 67 yX6_pass, Cond.instanceMethod yX6_pass, Cond.selects RX6 yX6_pass yX6_pass, Cond.code yX6_pass cX6_pass 4 (some .int), Cond.methodLink RX6 158 yX6_passes, Cond.instanceMethod yX6_passes, Cond.selects RX6 yX6_passes yX6_passes, Cond.code yX6_passes cX6_passes 5 (some .int), Cond.methodLink RX6 147 yX6_causeOf]
def wsL_law_r22 : List Cond := [Cond.instanceMethod yX6_causeOf, Cond.selects RX6 yX6_causeOf yX6_causeOf, Cond.code yX6_causeOf cX6_causeOf 4 (some .int), Cond.methodLink RX6 102 yX6_isHeld, Cond.instanceMethod yX6_isHeld, Cond.selects RX6 yX6_isHeld yX6_isHeld, Cond.code yX6_isHeld cX6_isHeld 3 (some .boolean), Cond.methodLink RX6 98 yX6_neededBy, Cond.instanceMethod yX6_neededBy, Cond.selects RX6 yX6_neededBy yX6_neededBy, Cond.code yX6_neededBy cX6_neededBy 4 (some .double), Cond.constantDouble RX6 96 (4612811918334230528), Cond.methodLink RX6 150 yX6_goes, Cond.instanceMethod yX6_goes, Cond.selects RX6 yX6_goes yX6_goes, Cond.code yX6_goes cX6_goes 4 none, Cond.methodLink RX6 154 yX6_changed, Cond.instanceMethod yX6_changed, Cond.selects RX6 yX6_changed yX6_changed, Cond.code yX6_changed cX6_changed 7 (some .double), Cond.constantDouble RX6 143 (4609434218613702656), Cond.constantDouble RX6 145 (4598175219545276416), Cond.methodLink RL 68 yX5_type, Cond.instanceMethod yX5_type]
def wsL_law_r23 : List Cond := [Cond.selects RX5 yX5_type yX5_type, Cond.code yX5_type cX5_type 2 (some .int), Cond.fieldLink RX5 186 "GlacierGuides$Text" "length" "I", Cond.methodLink RX5 189 yX3_append, Cond.instanceMethod yX3_append, Cond.selects RX3 yX3_append yX3_append, Cond.code yX3_append cX3_append 2 none, Cond.fieldLink RX3 15 "GlacierGuides$Text" "length" "I", Cond.methodLink RL 72 yX6_type, Cond.instanceMethod yX6_type, Cond.selects RX6 yX6_type yX6_type, Cond.code yX6_type cX6_type 2 (some .int), Cond.fieldLink RX6 162 "GlacierGuidesModel" "typed" "I", Cond.methodLink RL 73 yX5_clearText, Cond.instanceMethod yX5_clearText, Cond.selects RX5 yX5_clearText yX5_clearText, Cond.code yX5_clearText cX5_clearText 2 (some .int), Cond.methodLink RL 77 yX6_clearText, Cond.instanceMethod yX6_clearText, Cond.selects RX6 yX6_clearText yX6_clearText, Cond.code yX6_clearText cX6_clearText 2 (some .int), Cond.methodLink RL 78 yX5_perform, Cond.instanceMethod yX5_perform, Cond.selects RX5 yX5_perform yX5_perform]
def wsL_law_r24 : List Cond := [Cond.code yX5_perform cX5_perform 2 (some .int), Cond.fieldLink RX5 196 "GlacierGuides$Text" "command" "I", Cond.fieldLink RX5 199 "GlacierGuides$Text" "first" "I", Cond.fieldLink RX5 202 "GlacierGuides$Text" "second" "I", Cond.methodLink RX5 193 yX3_read, Cond.instanceMethod yX3_read, Cond.selects RX3 yX3_read yX3_read, Cond.code yX3_read cX3_read 5 (some .int), Cond.fieldLink RX3 27 "GlacierGuides$Text" "command" "I", Cond.methodLink RX3 19 yX3_wordLength, Cond.instanceMethod yX3_wordLength, Cond.selects RX3 yX3_wordLength yX3_wordLength, Cond.code yX3_wordLength cX3_wordLength 2 (some .int), Cond.methodLink RX3 23 yX3_commandOf, Cond.instanceMethod yX3_commandOf, Cond.selects RX3 yX3_commandOf yX3_commandOf, Cond.code yX3_commandOf cX3_commandOf 2 (some .int), Cond.methodLink RX3 46 yX3_isWord, Cond.instanceMethod yX3_isWord, Cond.selects RX3 yX3_isWord yX3_isWord, Cond.code yX3_isWord cX3_isWord 4 (some .boolean), Cond.methodLink RX3 58 yJ0_length_8abf5, Cond.instanceMethod yJ0_length_8abf5, Cond.selects RJ0 yJ0_length_8abf5 yJ0_length_8abf5]
def wsL_law_r25 : List Cond := [Cond.initialized RJ0, Cond.code yJ0_length_8abf5 cJ0_length_8abf5 1 (some .int), Cond.fieldLink RJ0 9 "java/lang/String" "value" "[B", Cond.methodLink RJ0 335 yJ0_coder_7d493, Cond.instanceMethod yJ0_coder_7d493, Cond.selects RJ0 yJ0_coder_7d493 yJ0_coder_7d493, Cond.code yJ0_coder_7d493 cJ0_coder_7d493 1 (some .byte), Cond.fieldLink RJ0 38 "java/lang/String" "COMPACT_STRINGS" "Z", Cond.fieldLink RJ0 15 "java/lang/String" "coder" "B", Cond.methodLink RX3 62 yJ0_charAt_5068e, Cond.instanceMethod yJ0_charAt_5068e, Cond.selects RJ0 yJ0_charAt_5068e yJ0_charAt_5068e, Cond.code yJ0_charAt_5068e cJ0_charAt_5068e 2 (some .char), Cond.methodLink RJ0 492 yJ0_isLatin1_aae02, Cond.instanceMethod yJ0_isLatin1_aae02, Cond.selects RJ0 yJ0_isLatin1_aae02 yJ0_isLatin1_aae02, Cond.code yJ0_isLatin1_aae02 cJ0_isLatin1_aae02 1 (some .boolean), Cond.methodLink RJ0 495 yJ1_charAt_3b067, Cond.static yJ1_charAt_3b067, Cond.initialized RJ1, Cond.code yJ1_charAt_3b067 cJ1_charAt_3b067 2 (some .char), Cond.methodLink RJ1 9 yJ0_checkIndex_df160, Cond.static yJ0_checkIndex_df160, Cond.code yJ0_checkIndex_df160 cJ0_checkIndex_df160 2 none]
def wsL_law_r26 : List Cond := [Cond.fieldLink RJ0 1053 "jdk/internal/util/Preconditions" "SIOOBE_FORMATTER" "Ljava/util/function/BiFunction;", Cond.methodLink RJ0 1059 yJ3_checkIndex_8e157, Cond.static yJ3_checkIndex_8e157, Cond.initialized RJ3, Cond.code yJ3_checkIndex_8e157 cJ3_checkIndex_8e157 3 (some .int), Cond.methodLink RJ0 498 yJ2_charAt_3b067, Cond.static yJ2_charAt_3b067, Cond.initialized RJ2, Cond.code yJ2_charAt_3b067 cJ2_charAt_3b067 2 (some .char), Cond.methodLink RJ2 67 yJ2_checkIndex_2214a, Cond.static yJ2_checkIndex_2214a, Cond.code yJ2_checkIndex_2214a cJ2_checkIndex_2214a 2 none, Cond.methodLink RJ2 48 yJ2_length_9d52b, Cond.static yJ2_length_9d52b, Cond.code yJ2_length_9d52b cJ2_length_9d52b 1 (some .int), Cond.methodLink RJ2 414 yJ0_checkIndex_df160, Cond.methodLink RJ2 71 yJ2_getChar_3b067, Cond.static yJ2_getChar_3b067, Cond.code yJ2_getChar_3b067 cJ2_getChar_3b067 2 (some .char), Cond.fieldLink RJ2 44 "java/lang/StringUTF16" "$assertionsDisabled" "Z", Cond.fieldLink RJ2 59 "java/lang/StringUTF16" "HI_BYTE_SHIFT" "I", Cond.fieldLink RJ2 63 "java/lang/StringUTF16" "LO_BYTE_SHIFT" "I", Cond.methodLink RX3 30 yX3_isBlankAt, Cond.instanceMethod yX3_isBlankAt]
def wsL_law_r27 : List Cond := [Cond.selects RX3 yX3_isBlankAt yX3_isBlankAt, Cond.code yX3_isBlankAt cX3_isBlankAt 2 (some .boolean), Cond.methodLink RX3 34 yX3_isDigitAt, Cond.instanceMethod yX3_isDigitAt, Cond.selects RX3 yX3_isDigitAt yX3_isDigitAt, Cond.code yX3_isDigitAt cX3_isDigitAt 2 (some .boolean), Cond.methodLink RX3 37 yX3_digitsAt, Cond.instanceMethod yX3_digitsAt, Cond.selects RX3 yX3_digitsAt yX3_digitsAt, Cond.code yX3_digitsAt cX3_digitsAt 2 (some .int), Cond.methodLink RX3 40 yX3_keepNumber, Cond.instanceMethod yX3_keepNumber, Cond.selects RX3 yX3_keepNumber yX3_keepNumber, Cond.code yX3_keepNumber cX3_keepNumber 5 none, Cond.fieldLink RX3 66 "GlacierGuides$Text" "first" "I", Cond.fieldLink RX3 69 "GlacierGuides$Text" "second" "I", Cond.methodLink RX5 205 yX5_book, Cond.methodLink RX5 208 yX5_leave, Cond.methodLink RX5 211 yX5_merge, Cond.methodLink RX5 214 yX5_lead, Cond.methodLink RX5 217 yX5_cancel, Cond.methodLink RL 81 yX6_perform, Cond.instanceMethod yX6_perform, Cond.selects RX6 yX6_perform yX6_perform]
def wsL_law_r28 : List Cond := [Cond.code yX6_perform cX6_perform 2 (some .int), Cond.fieldLink RX6 178 "GlacierGuidesModel" "readOne" "I", Cond.fieldLink RX6 165 "GlacierGuidesModel" "at" "I", Cond.fieldLink RX6 181 "GlacierGuidesModel" "readTwo" "I", Cond.methodLink RX6 172 yX6_word, Cond.instanceMethod yX6_word, Cond.selects RX6 yX6_word yX6_word, Cond.code yX6_word cX6_word 1 (some .int), Cond.methodLink RX6 168 yX6_isWord, Cond.instanceMethod yX6_isWord, Cond.selects RX6 yX6_isWord yX6_isWord, Cond.code yX6_isWord cX6_isWord 6 (some .boolean), Cond.methodLink RX6 175 yX6_number, Cond.instanceMethod yX6_number, Cond.selects RX6 yX6_number yX6_number, Cond.code yX6_number cX6_number 2 (some .int), Cond.methodLink RX6 184 yX6_book, Cond.methodLink RX6 187 yX6_leave, Cond.methodLink RX6 190 yX6_merge, Cond.methodLink RX6 193 yX6_cancel, Cond.methodLink RX6 196 yX6_lead, Cond.methodLink RL 82 yX5_undo, Cond.instanceMethod yX5_undo, Cond.selects RX5 yX5_undo yX5_undo]
def wsL_law_r29 : List Cond := [Cond.code yX5_undo cX5_undo 1 (some .int), Cond.fieldLink RX5 221 "GlacierGuides$History" "size" "I", Cond.methodLink RX5 224 yX1_takeBack, Cond.instanceMethod yX1_takeBack, Cond.selects RX1 yX1_takeBack yX1_takeBack, Cond.code yX1_takeBack cX1_takeBack 2 none, Cond.methodLink RL 85 yX6_undo, Cond.instanceMethod yX6_undo, Cond.selects RX6 yX6_undo yX6_undo, Cond.code yX6_undo cX6_undo 2 (some .int), Cond.methodLink RL 86 yX5_keep, Cond.instanceMethod yX5_keep, Cond.selects RX5 yX5_keep yX5_keep, Cond.code yX5_keep cX5_keep 1 (some .int), Cond.fieldLink RX5 230 "GlacierGuides" "hasSnapshot" "Z", Cond.methodLink RX5 227 yX2_copyFrom, Cond.methodLink RL 89 yX6_keep, Cond.instanceMethod yX6_keep, Cond.selects RX6 yX6_keep yX6_keep, Cond.code yX6_keep cX6_keep 2 (some .int), Cond.fieldLink RX6 199 "GlacierGuidesModel" "isFilled" "Z", Cond.methodLink RL 90 yX5_restore, Cond.instanceMethod yX5_restore, Cond.selects RX5 yX5_restore yX5_restore]
def wsL_law_r30 : List Cond := [Cond.code yX5_restore cX5_restore 1 (some .int), Cond.methodLink RL 93 yX6_restore, Cond.instanceMethod yX6_restore, Cond.selects RX6 yX6_restore yX6_restore, Cond.code yX6_restore cX6_restore 2 (some .int), Cond.methodLink RL 94 yX5_guide, Cond.instanceMethod yX5_guide, Cond.selects RX5 yX5_guide yX5_guide, Cond.code yX5_guide cX5_guide 4 (some .int), Cond.fieldLink RX5 240 "GlacierGuides$Guide" "toursLed" "I", Cond.fieldLink RX5 243 "GlacierGuides$Guide" "guestsLed" "I", Cond.methodLink RX5 234 yX0_isValidOn, Cond.methodLink RX5 237 yX2_firstOpenTourOf, Cond.instanceMethod yX2_firstOpenTourOf, Cond.selects RX2 yX2_firstOpenTourOf yX2_firstOpenTourOf, Cond.code yX2_firstOpenTourOf cX2_firstOpenTourOf 3 (some .int), Cond.methodLink RL 97 yX6_guide, Cond.instanceMethod yX6_guide, Cond.selects RX6 yX6_guide yX6_guide, Cond.code yX6_guide cX6_guide 3 (some .int), Cond.methodLink RX6 203 yX6_lowestTour, Cond.instanceMethod yX6_lowestTour, Cond.selects RX6 yX6_lowestTour yX6_lowestTour, Cond.code yX6_lowestTour cX6_lowestTour 3 (some .int)]
def wsL_law_r31 : List Cond := [Cond.methodLink RL 98 yX5_tour, Cond.instanceMethod yX5_tour, Cond.selects RX5 yX5_tour yX5_tour, Cond.code yX5_tour cX5_tour 4 (some .int), Cond.fieldLink RX5 246 "GlacierGuides$Tour" "day" "I", Cond.fieldLink RX5 247 "GlacierGuides$Tour" "bridges" "I", Cond.fieldLink RX5 250 "GlacierGuides$Tour" "cause" "I", Cond.fieldLink RX5 253 "GlacierGuides$Tour" "base" "I", Cond.methodLink RX5 256 yX2_causeAgainst, Cond.methodLink RL 101 yX6_tour, Cond.instanceMethod yX6_tour, Cond.selects RX6 yX6_tour yX6_tour, Cond.code yX6_tour cX6_tour 3 (some .int), Cond.methodLink RL 102 yX5_rope, Cond.instanceMethod yX5_rope, Cond.selects RX5 yX5_rope yX5_rope, Cond.code yX5_rope cX5_rope 5 (some .int), Cond.fieldLink RX5 260 "GlacierGuides$Tour" "row" "[I", Cond.methodLink RX5 264 yX2_guestsOnRope, Cond.methodLink RL 105 yX6_rope, Cond.instanceMethod yX6_rope, Cond.selects RX6 yX6_rope yX6_rope, Cond.code yX6_rope cX6_rope 5 (some .int), Cond.methodLink RL 106 yX5_thickness]
def wsL_law_r32 : List Cond := [Cond.instanceMethod yX5_thickness, Cond.selects RX5 yX5_thickness yX5_thickness, Cond.code yX5_thickness cX5_thickness 2 (some .double), Cond.methodLink RX5 267 yX2_hasBridge, Cond.instanceMethod yX2_hasBridge, Cond.selects RX2 yX2_hasBridge yX2_hasBridge, Cond.code yX2_hasBridge cX2_hasBridge 2 (some .boolean), Cond.methodLink RX5 270 yX5_noNumber, Cond.static yX5_noNumber, Cond.code yX5_noNumber cX5_noNumber 0 (some .double), Cond.constantDouble RX5 310 (9221120237041090560), Cond.methodLink RL 110 yX6_thickness, Cond.instanceMethod yX6_thickness, Cond.selects RX6 yX6_thickness yX6_thickness, Cond.code yX6_thickness cX6_thickness 2 (some .double), Cond.methodLink RX6 208 yX6_noBridge, Cond.instanceMethod yX6_noBridge, Cond.selects RX6 yX6_noBridge yX6_noBridge, Cond.code yX6_noBridge cX6_noBridge 2 (some .boolean), Cond.methodLink RX6 211 yX6_nothing, Cond.static yX6_nothing, Cond.code yX6_nothing cX6_nothing 0 (some .double), Cond.constantDouble RX6 206 (9221120237041090560), Cond.methodLink RL 111 yX5_foretold]
def wsL_law_r33 : List Cond := [Cond.instanceMethod yX5_foretold, Cond.selects RX5 yX5_foretold yX5_foretold, Cond.code yX5_foretold cX5_foretold 6 (some .double), Cond.methodLink RX5 274 yX2_dayLater, Cond.methodLink RL 115 yX6_foretold, Cond.instanceMethod yX6_foretold, Cond.selects RX6 yX6_foretold yX6_foretold, Cond.code yX6_foretold cX6_foretold 6 (some .double), Cond.methodLink RL 116 yX5_needed, Cond.instanceMethod yX5_needed, Cond.selects RX5 yX5_needed yX5_needed, Cond.code yX5_needed cX5_needed 3 (some .double), Cond.methodLink RX5 278 yX2_neededBy, Cond.methodLink RL 119 yX6_needed, Cond.instanceMethod yX6_needed, Cond.selects RX6 yX6_needed yX6_needed, Cond.code yX6_needed cX6_needed 2 (some .double), Cond.methodLink RL 120 yX5_holds, Cond.instanceMethod yX5_holds, Cond.selects RX5 yX5_holds yX5_holds, Cond.code yX5_holds cX5_holds 4 (some .int), Cond.methodLink RL 123 yX6_holds, Cond.instanceMethod yX6_holds, Cond.selects RX6 yX6_holds yX6_holds]
def wsL_law_r34 : List Cond := [Cond.code yX6_holds cX6_holds 3 (some .int), Cond.methodLink RL 124 yX5_bestGuide, Cond.instanceMethod yX5_bestGuide, Cond.selects RX5 yX5_bestGuide yX5_bestGuide, Cond.code yX5_bestGuide cX5_bestGuide 6 (some .int), Cond.methodLink RL 127 yX6_bestGuide, Cond.instanceMethod yX6_bestGuide, Cond.selects RX6 yX6_bestGuide yX6_bestGuide, Cond.code yX6_bestGuide cX6_bestGuide 5 (some .int), Cond.methodLink RL 128 yX5_takes, Cond.instanceMethod yX5_takes, Cond.selects RX5 yX5_takes yX5_takes, Cond.code yX5_takes cX5_takes 4 (some .int), Cond.methodLink RL 131 yX6_takes, Cond.instanceMethod yX6_takes, Cond.selects RX6 yX6_takes yX6_takes, Cond.code yX6_takes cX6_takes 3 (some .int), Cond.methodLink RL 132 yX5_count, Cond.instanceMethod yX5_count, Cond.selects RX5 yX5_count yX5_count, Cond.code yX5_count cX5_count 2 (some .int), Cond.fieldLink RX5 288 "GlacierGuides$State" "refunded" "I", Cond.methodLink RX5 282 yX2_toursThatAre, Cond.instanceMethod yX2_toursThatAre]
def wsL_law_r35 : List Cond := [Cond.selects RX2 yX2_toursThatAre yX2_toursThatAre, Cond.code yX2_toursThatAre cX2_toursThatAre 4 (some .int), Cond.methodLink RX5 285 yX2_allPaid, Cond.instanceMethod yX2_allPaid, Cond.selects RX2 yX2_allPaid yX2_allPaid, Cond.code yX2_allPaid cX2_allPaid 3 (some .int), Cond.methodLink RX5 291 yX2_guestsGone, Cond.instanceMethod yX2_guestsGone, Cond.selects RX2 yX2_guestsGone yX2_guestsGone, Cond.code yX2_guestsGone cX2_guestsGone 3 (some .int), Cond.methodLink RL 135 yX6_count, Cond.instanceMethod yX6_count, Cond.selects RX6 yX6_count yX6_count, Cond.code yX6_count cX6_count 2 (some .int), Cond.methodLink RX6 215 yX6_inState, Cond.instanceMethod yX6_inState, Cond.selects RX6 yX6_inState yX6_inState, Cond.code yX6_inState cX6_inState 4 (some .int), Cond.methodLink RX6 218 yX6_paidAll, Cond.instanceMethod yX6_paidAll, Cond.selects RX6 yX6_paidAll yX6_paidAll, Cond.code yX6_paidAll cX6_paidAll 3 (some .int), Cond.methodLink RX6 221 yX6_goneGuests, Cond.instanceMethod yX6_goneGuests]
def wsL_law_r36 : List Cond := [Cond.selects RX6 yX6_goneGuests yX6_goneGuests, Cond.code yX6_goneGuests cX6_goneGuests 3 (some .int), Cond.methodLink RL 136 yX5_temperature, Cond.instanceMethod yX5_temperature, Cond.selects RX5 yX5_temperature yX5_temperature, Cond.code yX5_temperature cX5_temperature 1 (some .long), Cond.methodLink RL 140 yX6_temperature, Cond.instanceMethod yX6_temperature, Cond.selects RX6 yX6_temperature yX6_temperature, Cond.code yX6_temperature cX6_temperature 1 (some .long), Cond.methodLink RX6 224 yJxe99ae_doubleToLongBits_ccdee, Cond.static yJxe99ae_doubleToLongBits_ccdee, Cond.initialized RJxe99ae, Cond.code yJxe99ae_doubleToLongBits_ccdee cJxe99ae_doubleToLongBits_ccdee 2 (some .long), Cond.methodLink RJxe99ae 134 ⟨"java/lang/Double", "doubleToRawLongBits", "(D)J"⟩, Cond.native ⟨"java/lang/Double", "doubleToRawLongBits", "(D)J"⟩, Cond.static ⟨"java/lang/Double", "doubleToRawLongBits", "(D)J"⟩, Cond.constantLong RJxe99ae 137 (9221120237041090560), Cond.methodLink RJxe99ae 122 yJxe99ae_isNaN_b9ae7, Cond.static yJxe99ae_isNaN_b9ae7, Cond.code yJxe99ae_isNaN_b9ae7 cJxe99ae_isNaN_b9ae7 2 (some .boolean)]
def wsL_law : List Cond := (wsL_law_r1 ++ (wsL_law_r2 ++ (wsL_law_r3 ++ (wsL_law_r4 ++ (wsL_law_r5 ++ (wsL_law_r6 ++ (wsL_law_r7 ++ (wsL_law_r8 ++ (wsL_law_r9 ++ (wsL_law_r10 ++ (wsL_law_r11 ++ (wsL_law_r12 ++ (wsL_law_r13 ++ (wsL_law_r14 ++ (wsL_law_r15 ++ (wsL_law_r16 ++ (wsL_law_r17 ++ (wsL_law_r18 ++ (wsL_law_r19 ++ (wsL_law_r20 ++ (wsL_law_r21 ++ (wsL_law_r22 ++ (wsL_law_r23 ++ (wsL_law_r24 ++ (wsL_law_r25 ++ (wsL_law_r26 ++ (wsL_law_r27 ++ (wsL_law_r28 ++ (wsL_law_r29 ++ (wsL_law_r30 ++ (wsL_law_r31 ++ (wsL_law_r32 ++ (wsL_law_r33 ++ (wsL_law_r34 ++ (wsL_law_r35 ++ wsL_law_r36))))))))))))))))))))))))))))))))))) ++ wsX50 ++ wsX60 ++ wsX20 ++ wsX10 ++ wsX30 ++ wsX00 ++ wsX40 ++ ([] : List Cond)
theorem inlX0 : ∀ w ∈ wsX00, w ∈ wsL_law := fun _ h => List.mem_append_left _ (List.mem_append_left _ (List.mem_append_right _ h))
theorem inlX1 : ∀ w ∈ wsX10, w ∈ wsL_law := fun _ h => List.mem_append_left _ (List.mem_append_left _ (List.mem_append_left _ (List.mem_append_left _ (List.mem_append_right _ h))))
theorem inlX2 : ∀ w ∈ wsX20, w ∈ wsL_law := fun _ h => List.mem_append_left _ (List.mem_append_left _ (List.mem_append_left _ (List.mem_append_left _ (List.mem_append_left _ (List.mem_append_right _ h)))))
theorem inlX3 : ∀ w ∈ wsX30, w ∈ wsL_law := fun _ h => List.mem_append_left _ (List.mem_append_left _ (List.mem_append_left _ (List.mem_append_right _ h)))
theorem inlX4 : ∀ w ∈ wsX40, w ∈ wsL_law := fun _ h => List.mem_append_left _ (List.mem_append_right _ h)
theorem inlX5 : ∀ w ∈ wsX50, w ∈ wsL_law := fun _ h => List.mem_append_left _ (List.mem_append_left _ (List.mem_append_left _ (List.mem_append_left _ (List.mem_append_left _ (List.mem_append_left _ (List.mem_append_left _ (List.mem_append_right _ h)))))))
theorem inlX6 : ∀ w ∈ wsX60, w ∈ wsL_law := fun _ h => List.mem_append_left _ (List.mem_append_left _ (List.mem_append_left _ (List.mem_append_left _ (List.mem_append_left _ (List.mem_append_left _ (List.mem_append_right _ h))))))
theorem wd_good : wsL_law.all goodWord = true := by decide +kernel
theorem wch1 : ∀ w ∈ wsL_law_r1, w ∈ wsL_law := fun w h => List.mem_append_left _ (List.mem_append_left _ (List.mem_append_left _ (List.mem_append_left _ (List.mem_append_left _ (List.mem_append_left _ (List.mem_append_left _ (List.mem_append_left _ (List.mem_append_left _ h))))))))
theorem wch2 : ∀ w ∈ wsL_law_r2, w ∈ wsL_law := fun w h => List.mem_append_left _ (List.mem_append_left _ (List.mem_append_left _ (List.mem_append_left _ (List.mem_append_left _ (List.mem_append_left _ (List.mem_append_left _ (List.mem_append_left _ (List.mem_append_right _ (List.mem_append_left _ h)))))))))
theorem wch3 : ∀ w ∈ wsL_law_r3, w ∈ wsL_law := fun w h => List.mem_append_left _ (List.mem_append_left _ (List.mem_append_left _ (List.mem_append_left _ (List.mem_append_left _ (List.mem_append_left _ (List.mem_append_left _ (List.mem_append_left _ (List.mem_append_right _ (List.mem_append_right _ (List.mem_append_left _ h))))))))))
theorem wch4 : ∀ w ∈ wsL_law_r4, w ∈ wsL_law := fun w h => List.mem_append_left _ (List.mem_append_left _ (List.mem_append_left _ (List.mem_append_left _ (List.mem_append_left _ (List.mem_append_left _ (List.mem_append_left _ (List.mem_append_left _ (List.mem_append_right _ (List.mem_append_right _ (List.mem_append_right _ (List.mem_append_left _ h)))))))))))
theorem wch5 : ∀ w ∈ wsL_law_r5, w ∈ wsL_law := fun w h => List.mem_append_left _ (List.mem_append_left _ (List.mem_append_left _ (List.mem_append_left _ (List.mem_append_left _ (List.mem_append_left _ (List.mem_append_left _ (List.mem_append_left _ (List.mem_append_right _ (List.mem_append_right _ (List.mem_append_right _ (List.mem_append_right _ (List.mem_append_left _ h))))))))))))
theorem wch6 : ∀ w ∈ wsL_law_r6, w ∈ wsL_law := fun w h => List.mem_append_left _ (List.mem_append_left _ (List.mem_append_left _ (List.mem_append_left _ (List.mem_append_left _ (List.mem_append_left _ (List.mem_append_left _ (List.mem_append_left _ (List.mem_append_right _ (List.mem_append_right _ (List.mem_append_right _ (List.mem_append_right _ (List.mem_append_right _ (List.mem_append_left _ h)))))))))))))
theorem wch7 : ∀ w ∈ wsL_law_r7, w ∈ wsL_law := fun w h => List.mem_append_left _ (List.mem_append_left _ (List.mem_append_left _ (List.mem_append_left _ (List.mem_append_left _ (List.mem_append_left _ (List.mem_append_left _ (List.mem_append_left _ (List.mem_append_right _ (List.mem_append_right _ (List.mem_append_right _ (List.mem_append_right _ (List.mem_append_right _ (List.mem_append_right _ (List.mem_append_left _ h))))))))))))))
theorem wch8 : ∀ w ∈ wsL_law_r8, w ∈ wsL_law := fun w h => List.mem_append_left _ (List.mem_append_left _ (List.mem_append_left _ (List.mem_append_left _ (List.mem_append_left _ (List.mem_append_left _ (List.mem_append_left _ (List.mem_append_left _ (List.mem_append_right _ (List.mem_append_right _ (List.mem_append_right _ (List.mem_append_right _ (List.mem_append_right _ (List.mem_append_right _ (List.mem_append_right _ (List.mem_append_left _ h)))))))))))))))
theorem wch9 : ∀ w ∈ wsL_law_r9, w ∈ wsL_law := fun w h => List.mem_append_left _ (List.mem_append_left _ (List.mem_append_left _ (List.mem_append_left _ (List.mem_append_left _ (List.mem_append_left _ (List.mem_append_left _ (List.mem_append_left _ (List.mem_append_right _ (List.mem_append_right _ (List.mem_append_right _ (List.mem_append_right _ (List.mem_append_right _ (List.mem_append_right _ (List.mem_append_right _ (List.mem_append_right _ (List.mem_append_left _ h))))))))))))))))
theorem wch10 : ∀ w ∈ wsL_law_r10, w ∈ wsL_law := fun w h => List.mem_append_left _ (List.mem_append_left _ (List.mem_append_left _ (List.mem_append_left _ (List.mem_append_left _ (List.mem_append_left _ (List.mem_append_left _ (List.mem_append_left _ (List.mem_append_right _ (List.mem_append_right _ (List.mem_append_right _ (List.mem_append_right _ (List.mem_append_right _ (List.mem_append_right _ (List.mem_append_right _ (List.mem_append_right _ (List.mem_append_right _ (List.mem_append_left _ h)))))))))))))))))
theorem wch11 : ∀ w ∈ wsL_law_r11, w ∈ wsL_law := fun w h => List.mem_append_left _ (List.mem_append_left _ (List.mem_append_left _ (List.mem_append_left _ (List.mem_append_left _ (List.mem_append_left _ (List.mem_append_left _ (List.mem_append_left _ (List.mem_append_right _ (List.mem_append_right _ (List.mem_append_right _ (List.mem_append_right _ (List.mem_append_right _ (List.mem_append_right _ (List.mem_append_right _ (List.mem_append_right _ (List.mem_append_right _ (List.mem_append_right _ (List.mem_append_left _ h))))))))))))))))))
theorem wch12 : ∀ w ∈ wsL_law_r12, w ∈ wsL_law := fun w h => List.mem_append_left _ (List.mem_append_left _ (List.mem_append_left _ (List.mem_append_left _ (List.mem_append_left _ (List.mem_append_left _ (List.mem_append_left _ (List.mem_append_left _ (List.mem_append_right _ (List.mem_append_right _ (List.mem_append_right _ (List.mem_append_right _ (List.mem_append_right _ (List.mem_append_right _ (List.mem_append_right _ (List.mem_append_right _ (List.mem_append_right _ (List.mem_append_right _ (List.mem_append_right _ (List.mem_append_left _ h)))))))))))))))))))
theorem wch13 : ∀ w ∈ wsL_law_r13, w ∈ wsL_law := fun w h => List.mem_append_left _ (List.mem_append_left _ (List.mem_append_left _ (List.mem_append_left _ (List.mem_append_left _ (List.mem_append_left _ (List.mem_append_left _ (List.mem_append_left _ (List.mem_append_right _ (List.mem_append_right _ (List.mem_append_right _ (List.mem_append_right _ (List.mem_append_right _ (List.mem_append_right _ (List.mem_append_right _ (List.mem_append_right _ (List.mem_append_right _ (List.mem_append_right _ (List.mem_append_right _ (List.mem_append_right _ (List.mem_append_left _ h))))))))))))))))))))
theorem wch14 : ∀ w ∈ wsL_law_r14, w ∈ wsL_law := fun w h => List.mem_append_left _ (List.mem_append_left _ (List.mem_append_left _ (List.mem_append_left _ (List.mem_append_left _ (List.mem_append_left _ (List.mem_append_left _ (List.mem_append_left _ (List.mem_append_right _ (List.mem_append_right _ (List.mem_append_right _ (List.mem_append_right _ (List.mem_append_right _ (List.mem_append_right _ (List.mem_append_right _ (List.mem_append_right _ (List.mem_append_right _ (List.mem_append_right _ (List.mem_append_right _ (List.mem_append_right _ (List.mem_append_right _ (List.mem_append_left _ h)))))))))))))))))))))
theorem wch15 : ∀ w ∈ wsL_law_r15, w ∈ wsL_law := fun w h => List.mem_append_left _ (List.mem_append_left _ (List.mem_append_left _ (List.mem_append_left _ (List.mem_append_left _ (List.mem_append_left _ (List.mem_append_left _ (List.mem_append_left _ (List.mem_append_right _ (List.mem_append_right _ (List.mem_append_right _ (List.mem_append_right _ (List.mem_append_right _ (List.mem_append_right _ (List.mem_append_right _ (List.mem_append_right _ (List.mem_append_right _ (List.mem_append_right _ (List.mem_append_right _ (List.mem_append_right _ (List.mem_append_right _ (List.mem_append_right _ (List.mem_append_left _ h))))))))))))))))))))))
theorem wch16 : ∀ w ∈ wsL_law_r16, w ∈ wsL_law := fun w h => List.mem_append_left _ (List.mem_append_left _ (List.mem_append_left _ (List.mem_append_left _ (List.mem_append_left _ (List.mem_append_left _ (List.mem_append_left _ (List.mem_append_left _ (List.mem_append_right _ (List.mem_append_right _ (List.mem_append_right _ (List.mem_append_right _ (List.mem_append_right _ (List.mem_append_right _ (List.mem_append_right _ (List.mem_append_right _ (List.mem_append_right _ (List.mem_append_right _ (List.mem_append_right _ (List.mem_append_right _ (List.mem_append_right _ (List.mem_append_right _ (List.mem_append_right _ (List.mem_append_left _ h)))))))))))))))))))))))
theorem wch17 : ∀ w ∈ wsL_law_r17, w ∈ wsL_law := fun w h => List.mem_append_left _ (List.mem_append_left _ (List.mem_append_left _ (List.mem_append_left _ (List.mem_append_left _ (List.mem_append_left _ (List.mem_append_left _ (List.mem_append_left _ (List.mem_append_right _ (List.mem_append_right _ (List.mem_append_right _ (List.mem_append_right _ (List.mem_append_right _ (List.mem_append_right _ (List.mem_append_right _ (List.mem_append_right _ (List.mem_append_right _ (List.mem_append_right _ (List.mem_append_right _ (List.mem_append_right _ (List.mem_append_right _ (List.mem_append_right _ (List.mem_append_right _ (List.mem_append_right _ (List.mem_append_left _ h))))))))))))))))))))))))
theorem wch18 : ∀ w ∈ wsL_law_r18, w ∈ wsL_law := fun w h => List.mem_append_left _ (List.mem_append_left _ (List.mem_append_left _ (List.mem_append_left _ (List.mem_append_left _ (List.mem_append_left _ (List.mem_append_left _ (List.mem_append_left _ (List.mem_append_right _ (List.mem_append_right _ (List.mem_append_right _ (List.mem_append_right _ (List.mem_append_right _ (List.mem_append_right _ (List.mem_append_right _ (List.mem_append_right _ (List.mem_append_right _ (List.mem_append_right _ (List.mem_append_right _ (List.mem_append_right _ (List.mem_append_right _ (List.mem_append_right _ (List.mem_append_right _ (List.mem_append_right _ (List.mem_append_right _ (List.mem_append_left _ h)))))))))))))))))))))))))
theorem wch19 : ∀ w ∈ wsL_law_r19, w ∈ wsL_law := fun w h => List.mem_append_left _ (List.mem_append_left _ (List.mem_append_left _ (List.mem_append_left _ (List.mem_append_left _ (List.mem_append_left _ (List.mem_append_left _ (List.mem_append_left _ (List.mem_append_right _ (List.mem_append_right _ (List.mem_append_right _ (List.mem_append_right _ (List.mem_append_right _ (List.mem_append_right _ (List.mem_append_right _ (List.mem_append_right _ (List.mem_append_right _ (List.mem_append_right _ (List.mem_append_right _ (List.mem_append_right _ (List.mem_append_right _ (List.mem_append_right _ (List.mem_append_right _ (List.mem_append_right _ (List.mem_append_right _ (List.mem_append_right _ (List.mem_append_left _ h))))))))))))))))))))))))))
theorem wch20 : ∀ w ∈ wsL_law_r20, w ∈ wsL_law := fun w h => List.mem_append_left _ (List.mem_append_left _ (List.mem_append_left _ (List.mem_append_left _ (List.mem_append_left _ (List.mem_append_left _ (List.mem_append_left _ (List.mem_append_left _ (List.mem_append_right _ (List.mem_append_right _ (List.mem_append_right _ (List.mem_append_right _ (List.mem_append_right _ (List.mem_append_right _ (List.mem_append_right _ (List.mem_append_right _ (List.mem_append_right _ (List.mem_append_right _ (List.mem_append_right _ (List.mem_append_right _ (List.mem_append_right _ (List.mem_append_right _ (List.mem_append_right _ (List.mem_append_right _ (List.mem_append_right _ (List.mem_append_right _ (List.mem_append_right _ (List.mem_append_left _ h)))))))))))))))))))))))))))
theorem wch21 : ∀ w ∈ wsL_law_r21, w ∈ wsL_law := fun w h => List.mem_append_left _ (List.mem_append_left _ (List.mem_append_left _ (List.mem_append_left _ (List.mem_append_left _ (List.mem_append_left _ (List.mem_append_left _ (List.mem_append_left _ (List.mem_append_right _ (List.mem_append_right _ (List.mem_append_right _ (List.mem_append_right _ (List.mem_append_right _ (List.mem_append_right _ (List.mem_append_right _ (List.mem_append_right _ (List.mem_append_right _ (List.mem_append_right _ (List.mem_append_right _ (List.mem_append_right _ (List.mem_append_right _ (List.mem_append_right _ (List.mem_append_right _ (List.mem_append_right _ (List.mem_append_right _ (List.mem_append_right _ (List.mem_append_right _ (List.mem_append_right _ (List.mem_append_left _ h))))))))))))))))))))))))))))
theorem wch22 : ∀ w ∈ wsL_law_r22, w ∈ wsL_law := fun w h => List.mem_append_left _ (List.mem_append_left _ (List.mem_append_left _ (List.mem_append_left _ (List.mem_append_left _ (List.mem_append_left _ (List.mem_append_left _ (List.mem_append_left _ (List.mem_append_right _ (List.mem_append_right _ (List.mem_append_right _ (List.mem_append_right _ (List.mem_append_right _ (List.mem_append_right _ (List.mem_append_right _ (List.mem_append_right _ (List.mem_append_right _ (List.mem_append_right _ (List.mem_append_right _ (List.mem_append_right _ (List.mem_append_right _ (List.mem_append_right _ (List.mem_append_right _ (List.mem_append_right _ (List.mem_append_right _ (List.mem_append_right _ (List.mem_append_right _ (List.mem_append_right _ (List.mem_append_right _ (List.mem_append_left _ h)))))))))))))))))))))))))))))
theorem wch23 : ∀ w ∈ wsL_law_r23, w ∈ wsL_law := fun w h => List.mem_append_left _ (List.mem_append_left _ (List.mem_append_left _ (List.mem_append_left _ (List.mem_append_left _ (List.mem_append_left _ (List.mem_append_left _ (List.mem_append_left _ (List.mem_append_right _ (List.mem_append_right _ (List.mem_append_right _ (List.mem_append_right _ (List.mem_append_right _ (List.mem_append_right _ (List.mem_append_right _ (List.mem_append_right _ (List.mem_append_right _ (List.mem_append_right _ (List.mem_append_right _ (List.mem_append_right _ (List.mem_append_right _ (List.mem_append_right _ (List.mem_append_right _ (List.mem_append_right _ (List.mem_append_right _ (List.mem_append_right _ (List.mem_append_right _ (List.mem_append_right _ (List.mem_append_right _ (List.mem_append_right _ (List.mem_append_left _ h))))))))))))))))))))))))))))))
theorem wch24 : ∀ w ∈ wsL_law_r24, w ∈ wsL_law := fun w h => List.mem_append_left _ (List.mem_append_left _ (List.mem_append_left _ (List.mem_append_left _ (List.mem_append_left _ (List.mem_append_left _ (List.mem_append_left _ (List.mem_append_left _ (List.mem_append_right _ (List.mem_append_right _ (List.mem_append_right _ (List.mem_append_right _ (List.mem_append_right _ (List.mem_append_right _ (List.mem_append_right _ (List.mem_append_right _ (List.mem_append_right _ (List.mem_append_right _ (List.mem_append_right _ (List.mem_append_right _ (List.mem_append_right _ (List.mem_append_right _ (List.mem_append_right _ (List.mem_append_right _ (List.mem_append_right _ (List.mem_append_right _ (List.mem_append_right _ (List.mem_append_right _ (List.mem_append_right _ (List.mem_append_right _ (List.mem_append_right _ (List.mem_append_left _ h)))))))))))))))))))))))))))))))
theorem wch25 : ∀ w ∈ wsL_law_r25, w ∈ wsL_law := fun w h => List.mem_append_left _ (List.mem_append_left _ (List.mem_append_left _ (List.mem_append_left _ (List.mem_append_left _ (List.mem_append_left _ (List.mem_append_left _ (List.mem_append_left _ (List.mem_append_right _ (List.mem_append_right _ (List.mem_append_right _ (List.mem_append_right _ (List.mem_append_right _ (List.mem_append_right _ (List.mem_append_right _ (List.mem_append_right _ (List.mem_append_right _ (List.mem_append_right _ (List.mem_append_right _ (List.mem_append_right _ (List.mem_append_right _ (List.mem_append_right _ (List.mem_append_right _ (List.mem_append_right _ (List.mem_append_right _ (List.mem_append_right _ (List.mem_append_right _ (List.mem_append_right _ (List.mem_append_right _ (List.mem_append_right _ (List.mem_append_right _ (List.mem_append_right _ (List.mem_append_left _ h))))))))))))))))))))))))))))))))
theorem wch26 : ∀ w ∈ wsL_law_r26, w ∈ wsL_law := fun w h => List.mem_append_left _ (List.mem_append_left _ (List.mem_append_left _ (List.mem_append_left _ (List.mem_append_left _ (List.mem_append_left _ (List.mem_append_left _ (List.mem_append_left _ (List.mem_append_right _ (List.mem_append_right _ (List.mem_append_right _ (List.mem_append_right _ (List.mem_append_right _ (List.mem_append_right _ (List.mem_append_right _ (List.mem_append_right _ (List.mem_append_right _ (List.mem_append_right _ (List.mem_append_right _ (List.mem_append_right _ (List.mem_append_right _ (List.mem_append_right _ (List.mem_append_right _ (List.mem_append_right _ (List.mem_append_right _ (List.mem_append_right _ (List.mem_append_right _ (List.mem_append_right _ (List.mem_append_right _ (List.mem_append_right _ (List.mem_append_right _ (List.mem_append_right _ (List.mem_append_right _ (List.mem_append_left _ h)))))))))))))))))))))))))))))))))
theorem wch27 : ∀ w ∈ wsL_law_r27, w ∈ wsL_law := fun w h => List.mem_append_left _ (List.mem_append_left _ (List.mem_append_left _ (List.mem_append_left _ (List.mem_append_left _ (List.mem_append_left _ (List.mem_append_left _ (List.mem_append_left _ (List.mem_append_right _ (List.mem_append_right _ (List.mem_append_right _ (List.mem_append_right _ (List.mem_append_right _ (List.mem_append_right _ (List.mem_append_right _ (List.mem_append_right _ (List.mem_append_right _ (List.mem_append_right _ (List.mem_append_right _ (List.mem_append_right _ (List.mem_append_right _ (List.mem_append_right _ (List.mem_append_right _ (List.mem_append_right _ (List.mem_append_right _ (List.mem_append_right _ (List.mem_append_right _ (List.mem_append_right _ (List.mem_append_right _ (List.mem_append_right _ (List.mem_append_right _ (List.mem_append_right _ (List.mem_append_right _ (List.mem_append_right _ (List.mem_append_left _ h))))))))))))))))))))))))))))))))))
theorem wch28 : ∀ w ∈ wsL_law_r28, w ∈ wsL_law := fun w h => List.mem_append_left _ (List.mem_append_left _ (List.mem_append_left _ (List.mem_append_left _ (List.mem_append_left _ (List.mem_append_left _ (List.mem_append_left _ (List.mem_append_left _ (List.mem_append_right _ (List.mem_append_right _ (List.mem_append_right _ (List.mem_append_right _ (List.mem_append_right _ (List.mem_append_right _ (List.mem_append_right _ (List.mem_append_right _ (List.mem_append_right _ (List.mem_append_right _ (List.mem_append_right _ (List.mem_append_right _ (List.mem_append_right _ (List.mem_append_right _ (List.mem_append_right _ (List.mem_append_right _ (List.mem_append_right _ (List.mem_append_right _ (List.mem_append_right _ (List.mem_append_right _ (List.mem_append_right _ (List.mem_append_right _ (List.mem_append_right _ (List.mem_append_right _ (List.mem_append_right _ (List.mem_append_right _ (List.mem_append_right _ (List.mem_append_left _ h)))))))))))))))))))))))))))))))))))
theorem wch29 : ∀ w ∈ wsL_law_r29, w ∈ wsL_law := fun w h => List.mem_append_left _ (List.mem_append_left _ (List.mem_append_left _ (List.mem_append_left _ (List.mem_append_left _ (List.mem_append_left _ (List.mem_append_left _ (List.mem_append_left _ (List.mem_append_right _ (List.mem_append_right _ (List.mem_append_right _ (List.mem_append_right _ (List.mem_append_right _ (List.mem_append_right _ (List.mem_append_right _ (List.mem_append_right _ (List.mem_append_right _ (List.mem_append_right _ (List.mem_append_right _ (List.mem_append_right _ (List.mem_append_right _ (List.mem_append_right _ (List.mem_append_right _ (List.mem_append_right _ (List.mem_append_right _ (List.mem_append_right _ (List.mem_append_right _ (List.mem_append_right _ (List.mem_append_right _ (List.mem_append_right _ (List.mem_append_right _ (List.mem_append_right _ (List.mem_append_right _ (List.mem_append_right _ (List.mem_append_right _ (List.mem_append_right _ (List.mem_append_left _ h))))))))))))))))))))))))))))))))))))
theorem wch30 : ∀ w ∈ wsL_law_r30, w ∈ wsL_law := fun w h => List.mem_append_left _ (List.mem_append_left _ (List.mem_append_left _ (List.mem_append_left _ (List.mem_append_left _ (List.mem_append_left _ (List.mem_append_left _ (List.mem_append_left _ (List.mem_append_right _ (List.mem_append_right _ (List.mem_append_right _ (List.mem_append_right _ (List.mem_append_right _ (List.mem_append_right _ (List.mem_append_right _ (List.mem_append_right _ (List.mem_append_right _ (List.mem_append_right _ (List.mem_append_right _ (List.mem_append_right _ (List.mem_append_right _ (List.mem_append_right _ (List.mem_append_right _ (List.mem_append_right _ (List.mem_append_right _ (List.mem_append_right _ (List.mem_append_right _ (List.mem_append_right _ (List.mem_append_right _ (List.mem_append_right _ (List.mem_append_right _ (List.mem_append_right _ (List.mem_append_right _ (List.mem_append_right _ (List.mem_append_right _ (List.mem_append_right _ (List.mem_append_right _ (List.mem_append_left _ h)))))))))))))))))))))))))))))))))))))
theorem wch31 : ∀ w ∈ wsL_law_r31, w ∈ wsL_law := fun w h => List.mem_append_left _ (List.mem_append_left _ (List.mem_append_left _ (List.mem_append_left _ (List.mem_append_left _ (List.mem_append_left _ (List.mem_append_left _ (List.mem_append_left _ (List.mem_append_right _ (List.mem_append_right _ (List.mem_append_right _ (List.mem_append_right _ (List.mem_append_right _ (List.mem_append_right _ (List.mem_append_right _ (List.mem_append_right _ (List.mem_append_right _ (List.mem_append_right _ (List.mem_append_right _ (List.mem_append_right _ (List.mem_append_right _ (List.mem_append_right _ (List.mem_append_right _ (List.mem_append_right _ (List.mem_append_right _ (List.mem_append_right _ (List.mem_append_right _ (List.mem_append_right _ (List.mem_append_right _ (List.mem_append_right _ (List.mem_append_right _ (List.mem_append_right _ (List.mem_append_right _ (List.mem_append_right _ (List.mem_append_right _ (List.mem_append_right _ (List.mem_append_right _ (List.mem_append_right _ (List.mem_append_left _ h))))))))))))))))))))))))))))))))))))))
theorem wch32 : ∀ w ∈ wsL_law_r32, w ∈ wsL_law := fun w h => List.mem_append_left _ (List.mem_append_left _ (List.mem_append_left _ (List.mem_append_left _ (List.mem_append_left _ (List.mem_append_left _ (List.mem_append_left _ (List.mem_append_left _ (List.mem_append_right _ (List.mem_append_right _ (List.mem_append_right _ (List.mem_append_right _ (List.mem_append_right _ (List.mem_append_right _ (List.mem_append_right _ (List.mem_append_right _ (List.mem_append_right _ (List.mem_append_right _ (List.mem_append_right _ (List.mem_append_right _ (List.mem_append_right _ (List.mem_append_right _ (List.mem_append_right _ (List.mem_append_right _ (List.mem_append_right _ (List.mem_append_right _ (List.mem_append_right _ (List.mem_append_right _ (List.mem_append_right _ (List.mem_append_right _ (List.mem_append_right _ (List.mem_append_right _ (List.mem_append_right _ (List.mem_append_right _ (List.mem_append_right _ (List.mem_append_right _ (List.mem_append_right _ (List.mem_append_right _ (List.mem_append_right _ (List.mem_append_left _ h)))))))))))))))))))))))))))))))))))))))
theorem wch33 : ∀ w ∈ wsL_law_r33, w ∈ wsL_law := fun w h => List.mem_append_left _ (List.mem_append_left _ (List.mem_append_left _ (List.mem_append_left _ (List.mem_append_left _ (List.mem_append_left _ (List.mem_append_left _ (List.mem_append_left _ (List.mem_append_right _ (List.mem_append_right _ (List.mem_append_right _ (List.mem_append_right _ (List.mem_append_right _ (List.mem_append_right _ (List.mem_append_right _ (List.mem_append_right _ (List.mem_append_right _ (List.mem_append_right _ (List.mem_append_right _ (List.mem_append_right _ (List.mem_append_right _ (List.mem_append_right _ (List.mem_append_right _ (List.mem_append_right _ (List.mem_append_right _ (List.mem_append_right _ (List.mem_append_right _ (List.mem_append_right _ (List.mem_append_right _ (List.mem_append_right _ (List.mem_append_right _ (List.mem_append_right _ (List.mem_append_right _ (List.mem_append_right _ (List.mem_append_right _ (List.mem_append_right _ (List.mem_append_right _ (List.mem_append_right _ (List.mem_append_right _ (List.mem_append_right _ (List.mem_append_left _ h))))))))))))))))))))))))))))))))))))))))
theorem wch34 : ∀ w ∈ wsL_law_r34, w ∈ wsL_law := fun w h => List.mem_append_left _ (List.mem_append_left _ (List.mem_append_left _ (List.mem_append_left _ (List.mem_append_left _ (List.mem_append_left _ (List.mem_append_left _ (List.mem_append_left _ (List.mem_append_right _ (List.mem_append_right _ (List.mem_append_right _ (List.mem_append_right _ (List.mem_append_right _ (List.mem_append_right _ (List.mem_append_right _ (List.mem_append_right _ (List.mem_append_right _ (List.mem_append_right _ (List.mem_append_right _ (List.mem_append_right _ (List.mem_append_right _ (List.mem_append_right _ (List.mem_append_right _ (List.mem_append_right _ (List.mem_append_right _ (List.mem_append_right _ (List.mem_append_right _ (List.mem_append_right _ (List.mem_append_right _ (List.mem_append_right _ (List.mem_append_right _ (List.mem_append_right _ (List.mem_append_right _ (List.mem_append_right _ (List.mem_append_right _ (List.mem_append_right _ (List.mem_append_right _ (List.mem_append_right _ (List.mem_append_right _ (List.mem_append_right _ (List.mem_append_right _ (List.mem_append_left _ h)))))))))))))))))))))))))))))))))))))))))
theorem wch35 : ∀ w ∈ wsL_law_r35, w ∈ wsL_law := fun w h => List.mem_append_left _ (List.mem_append_left _ (List.mem_append_left _ (List.mem_append_left _ (List.mem_append_left _ (List.mem_append_left _ (List.mem_append_left _ (List.mem_append_left _ (List.mem_append_right _ (List.mem_append_right _ (List.mem_append_right _ (List.mem_append_right _ (List.mem_append_right _ (List.mem_append_right _ (List.mem_append_right _ (List.mem_append_right _ (List.mem_append_right _ (List.mem_append_right _ (List.mem_append_right _ (List.mem_append_right _ (List.mem_append_right _ (List.mem_append_right _ (List.mem_append_right _ (List.mem_append_right _ (List.mem_append_right _ (List.mem_append_right _ (List.mem_append_right _ (List.mem_append_right _ (List.mem_append_right _ (List.mem_append_right _ (List.mem_append_right _ (List.mem_append_right _ (List.mem_append_right _ (List.mem_append_right _ (List.mem_append_right _ (List.mem_append_right _ (List.mem_append_right _ (List.mem_append_right _ (List.mem_append_right _ (List.mem_append_right _ (List.mem_append_right _ (List.mem_append_right _ (List.mem_append_left _ h))))))))))))))))))))))))))))))))))))))))))
theorem wch36 : ∀ w ∈ wsL_law_r36, w ∈ wsL_law := fun w h => List.mem_append_left _ (List.mem_append_left _ (List.mem_append_left _ (List.mem_append_left _ (List.mem_append_left _ (List.mem_append_left _ (List.mem_append_left _ (List.mem_append_left _ (List.mem_append_right _ (List.mem_append_right _ (List.mem_append_right _ (List.mem_append_right _ (List.mem_append_right _ (List.mem_append_right _ (List.mem_append_right _ (List.mem_append_right _ (List.mem_append_right _ (List.mem_append_right _ (List.mem_append_right _ (List.mem_append_right _ (List.mem_append_right _ (List.mem_append_right _ (List.mem_append_right _ (List.mem_append_right _ (List.mem_append_right _ (List.mem_append_right _ (List.mem_append_right _ (List.mem_append_right _ (List.mem_append_right _ (List.mem_append_right _ (List.mem_append_right _ (List.mem_append_right _ (List.mem_append_right _ (List.mem_append_right _ (List.mem_append_right _ (List.mem_append_right _ (List.mem_append_right _ (List.mem_append_right _ (List.mem_append_right _ (List.mem_append_right _ (List.mem_append_right _ (List.mem_append_right _ (List.mem_append_right _ (h)))))))))))))))))))))))))))))))))))))))))))
theorem q0 : (Cond.classLink RL 7 RX5) ∈ wsL_law := wch1 _ (List.mem_of_getElem? (i := 0) rfl)
theorem q1 : (Cond.instantiable RX5 5) ∈ wsL_law := wch1 _ (List.mem_of_getElem? (i := 1) rfl)
theorem q2 : (Cond.initialized RX5) ∈ wsL_law := wch1 _ (List.mem_of_getElem? (i := 2) rfl)
theorem q3 : (Cond.classLink RL 10 RX6) ∈ wsL_law := wch1 _ (List.mem_of_getElem? (i := 3) rfl)
theorem q4 : (Cond.instantiable RX6 13) ∈ wsL_law := wch1 _ (List.mem_of_getElem? (i := 4) rfl)
theorem q5 : (Cond.initialized RX6) ∈ wsL_law := wch1 _ (List.mem_of_getElem? (i := 5) rfl)
theorem q6 : (Cond.constantLong RL 23 (4294967295)) ∈ wsL_law := wch1 _ (List.mem_of_getElem? (i := 6) rfl)
theorem q7 : (Cond.methodLink RL 9 yX5_init) ∈ wsL_law := wch1 _ (List.mem_of_getElem? (i := 7) rfl)
theorem q8 : (Cond.instanceMethod yX5_init) ∈ wsL_law := wch1 _ (List.mem_of_getElem? (i := 8) rfl)
theorem q9 : (Cond.code yX5_init cX5_init 1 none) ∈ wsL_law := wch1 _ (List.mem_of_getElem? (i := 9) rfl)
theorem q10 : (Cond.methodLink RX5 1 objectInit) ∈ wsL_law := wch1 _ (List.mem_of_getElem? (i := 10) rfl)
theorem q11 : (Cond.instanceMethod objectInit) ∈ wsL_law := wch1 _ (List.mem_of_getElem? (i := 11) rfl)
theorem q12 : (Cond.code objectInit ⟨#[0xb1]⟩ 1 none) ∈ wsL_law := wch1 _ (List.mem_of_getElem? (i := 12) rfl)
theorem q13 : (Cond.classLink RX5 7 RX2) ∈ wsL_law := wch1 _ (List.mem_of_getElem? (i := 13) rfl)
theorem q14 : (Cond.instantiable RX2 10) ∈ wsL_law := wch1 _ (List.mem_of_getElem? (i := 14) rfl)
theorem q15 : (Cond.initialized RX2) ∈ wsL_law := wch1 _ (List.mem_of_getElem? (i := 15) rfl)
theorem q16 : (Cond.fieldLink RX5 10 "GlacierGuides" "now" "LGlacierGuides$State;") ∈ wsL_law := wch1 _ (List.mem_of_getElem? (i := 16) rfl)
theorem q17 : (Cond.fieldLink RX5 16 "GlacierGuides" "snapshot" "LGlacierGuides$State;") ∈ wsL_law := wch1 _ (List.mem_of_getElem? (i := 17) rfl)
theorem q18 : (Cond.classLink RX5 19 RX1) ∈ wsL_law := wch1 _ (List.mem_of_getElem? (i := 18) rfl)
theorem q19 : (Cond.instantiable RX1 3) ∈ wsL_law := wch1 _ (List.mem_of_getElem? (i := 19) rfl)
theorem q20 : (Cond.initialized RX1) ∈ wsL_law := wch1 _ (List.mem_of_getElem? (i := 20) rfl)
theorem q21 : (Cond.fieldLink RX5 22 "GlacierGuides" "history" "LGlacierGuides$History;") ∈ wsL_law := wch1 _ (List.mem_of_getElem? (i := 21) rfl)
theorem q22 : (Cond.classLink RX5 26 RX3) ∈ wsL_law := wch1 _ (List.mem_of_getElem? (i := 22) rfl)
theorem q23 : (Cond.instantiable RX3 5) ∈ wsL_law := wch1 _ (List.mem_of_getElem? (i := 23) rfl)
theorem q24 : (Cond.initialized RX3) ∈ wsL_law := wch2 _ (List.mem_of_getElem? (i := 0) rfl)
theorem q25 : (Cond.fieldLink RX5 29 "GlacierGuides" "text" "LGlacierGuides$Text;") ∈ wsL_law := wch2 _ (List.mem_of_getElem? (i := 1) rfl)
theorem q26 : (Cond.methodLink RX5 9 yX2_init) ∈ wsL_law := wch2 _ (List.mem_of_getElem? (i := 2) rfl)
theorem q27 : (Cond.instanceMethod yX2_init) ∈ wsL_law := wch2 _ (List.mem_of_getElem? (i := 3) rfl)
theorem q28 : (Cond.code yX2_init cX2_init 2 none) ∈ wsL_law := wch2 _ (List.mem_of_getElem? (i := 4) rfl)
theorem q29 : (Cond.methodLink RX2 3 objectInit) ∈ wsL_law := wch2 _ (List.mem_of_getElem? (i := 5) rfl)
theorem q30 : (Cond.classLink RX2 9 RX0) ∈ wsL_law := wch2 _ (List.mem_of_getElem? (i := 6) rfl)
theorem q31 : (Cond.fieldLink RX2 11 "GlacierGuides$State" "guides" "[LGlacierGuides$Guide;") ∈ wsL_law := wch2 _ (List.mem_of_getElem? (i := 7) rfl)
theorem q32 : (Cond.instantiable RX0 4) ∈ wsL_law := wch2 _ (List.mem_of_getElem? (i := 8) rfl)
theorem q33 : (Cond.initialized RX0) ∈ wsL_law := wch2 _ (List.mem_of_getElem? (i := 9) rfl)
theorem q34 : (Cond.arrayClass .double) ∈ wsL_law := wch2 _ (List.mem_of_getElem? (i := 10) rfl)
theorem q35 : (Cond.fieldLink RX2 18 "GlacierGuides$State" "thicknesses" "[D") ∈ wsL_law := wch2 _ (List.mem_of_getElem? (i := 11) rfl)
theorem q36 : (Cond.classLink RX2 22 RX4) ∈ wsL_law := wch2 _ (List.mem_of_getElem? (i := 12) rfl)
theorem q37 : (Cond.fieldLink RX2 24 "GlacierGuides$State" "tours" "[LGlacierGuides$Tour;") ∈ wsL_law := wch2 _ (List.mem_of_getElem? (i := 13) rfl)
theorem q38 : (Cond.instantiable RX4 11) ∈ wsL_law := wch2 _ (List.mem_of_getElem? (i := 14) rfl)
theorem q39 : (Cond.initialized RX4) ∈ wsL_law := wch2 _ (List.mem_of_getElem? (i := 15) rfl)
theorem q40 : (Cond.instanceMethod yX0_init) ∈ wsL_law := wch2 _ (List.mem_of_getElem? (i := 16) rfl)
theorem q41 : (Cond.code yX0_init cX0_init 1 none) ∈ wsL_law := wch2 _ (List.mem_of_getElem? (i := 17) rfl)
theorem q42 : (Cond.methodLink RX0 1 objectInit) ∈ wsL_law := wch2 _ (List.mem_of_getElem? (i := 18) rfl)
theorem q43 : (Cond.methodLink RX2 28 yX4_init) ∈ wsL_law := wch2 _ (List.mem_of_getElem? (i := 19) rfl)
theorem q44 : (Cond.instanceMethod yX4_init) ∈ wsL_law := wch2 _ (List.mem_of_getElem? (i := 20) rfl)
theorem q45 : (Cond.code yX4_init cX4_init 1 none) ∈ wsL_law := wch2 _ (List.mem_of_getElem? (i := 21) rfl)
theorem q46 : (Cond.methodLink RX4 3 objectInit) ∈ wsL_law := wch2 _ (List.mem_of_getElem? (i := 22) rfl)
theorem q47 : (Cond.arrayClass .int) ∈ wsL_law := wch2 _ (List.mem_of_getElem? (i := 23) rfl)
theorem q48 : (Cond.fieldLink RX4 9 "GlacierGuides$Tour" "row" "[I") ∈ wsL_law := wch3 _ (List.mem_of_getElem? (i := 0) rfl)
theorem q49 : (Cond.methodLink RX5 21 yX1_init) ∈ wsL_law := wch3 _ (List.mem_of_getElem? (i := 1) rfl)
theorem q50 : (Cond.instanceMethod yX1_init) ∈ wsL_law := wch3 _ (List.mem_of_getElem? (i := 2) rfl)
theorem q51 : (Cond.code yX1_init cX1_init 2 none) ∈ wsL_law := wch3 _ (List.mem_of_getElem? (i := 3) rfl)
theorem q52 : (Cond.methodLink RX1 3 objectInit) ∈ wsL_law := wch3 _ (List.mem_of_getElem? (i := 4) rfl)
theorem q53 : (Cond.classLink RX1 9 RX2) ∈ wsL_law := wch3 _ (List.mem_of_getElem? (i := 5) rfl)
theorem q54 : (Cond.fieldLink RX1 11 "GlacierGuides$History" "states" "[LGlacierGuides$State;") ∈ wsL_law := wch3 _ (List.mem_of_getElem? (i := 6) rfl)
theorem q55 : (Cond.methodLink RX1 17 yX2_init) ∈ wsL_law := wch3 _ (List.mem_of_getElem? (i := 7) rfl)
theorem q56 : (Cond.methodLink RX5 28 yX3_init) ∈ wsL_law := wch3 _ (List.mem_of_getElem? (i := 8) rfl)
theorem q57 : (Cond.instanceMethod yX3_init) ∈ wsL_law := wch3 _ (List.mem_of_getElem? (i := 9) rfl)
theorem q58 : (Cond.code yX3_init cX3_init 1 none) ∈ wsL_law := wch3 _ (List.mem_of_getElem? (i := 10) rfl)
theorem q59 : (Cond.methodLink RX3 3 objectInit) ∈ wsL_law := wch3 _ (List.mem_of_getElem? (i := 11) rfl)
theorem q60 : (Cond.arrayClass .char) ∈ wsL_law := wch3 _ (List.mem_of_getElem? (i := 12) rfl)
theorem q61 : (Cond.fieldLink RX3 9 "GlacierGuides$Text" "characters" "[C") ∈ wsL_law := wch3 _ (List.mem_of_getElem? (i := 13) rfl)
theorem q62 : (Cond.methodLink RL 12 yX6_init) ∈ wsL_law := wch3 _ (List.mem_of_getElem? (i := 14) rfl)
theorem q63 : (Cond.instanceMethod yX6_init) ∈ wsL_law := wch3 _ (List.mem_of_getElem? (i := 15) rfl)
theorem q64 : (Cond.code yX6_init cX6_init 1 none) ∈ wsL_law := wch3 _ (List.mem_of_getElem? (i := 16) rfl)
theorem q65 : (Cond.methodLink RX6 1 objectInit) ∈ wsL_law := wch3 _ (List.mem_of_getElem? (i := 17) rfl)
theorem q66 : (Cond.fieldLink RX6 7 "GlacierGuidesModel" "now" "[I") ∈ wsL_law := wch3 _ (List.mem_of_getElem? (i := 18) rfl)
theorem q67 : (Cond.fieldLink RX6 13 "GlacierGuidesModel" "history" "[I") ∈ wsL_law := wch3 _ (List.mem_of_getElem? (i := 19) rfl)
theorem q68 : (Cond.fieldLink RX6 16 "GlacierGuidesModel" "slot" "[I") ∈ wsL_law := wch3 _ (List.mem_of_getElem? (i := 20) rfl)
theorem q69 : (Cond.fieldLink RX6 19 "GlacierGuidesModel" "real" "[D") ∈ wsL_law := wch3 _ (List.mem_of_getElem? (i := 21) rfl)
theorem q70 : (Cond.fieldLink RX6 23 "GlacierGuidesModel" "realHistory" "[D") ∈ wsL_law := wch3 _ (List.mem_of_getElem? (i := 22) rfl)
theorem q71 : (Cond.fieldLink RX6 26 "GlacierGuidesModel" "realSlot" "[D") ∈ wsL_law := wch3 _ (List.mem_of_getElem? (i := 23) rfl)
theorem q72 : (Cond.fieldLink RX6 29 "GlacierGuidesModel" "text" "[C") ∈ wsL_law := wch4 _ (List.mem_of_getElem? (i := 0) rfl)
theorem q73 : (Cond.methodLink RL 13 yX5_addGuide) ∈ wsL_law := wch4 _ (List.mem_of_getElem? (i := 1) rfl)
theorem q74 : (Cond.instanceMethod yX5_addGuide) ∈ wsL_law := wch4 _ (List.mem_of_getElem? (i := 2) rfl)
theorem q75 : (Cond.selects RX5 yX5_addGuide yX5_addGuide) ∈ wsL_law := wch4 _ (List.mem_of_getElem? (i := 3) rfl)
theorem q76 : (Cond.code yX5_addGuide cX5_addGuide 4 (some .int)) ∈ wsL_law := wch4 _ (List.mem_of_getElem? (i := 4) rfl)
theorem q77 : (Cond.fieldLink RX5 40 "GlacierGuides$State" "guideCount" "I") ∈ wsL_law := wch4 _ (List.mem_of_getElem? (i := 5) rfl)
theorem q78 : (Cond.fieldLink RX5 48 "GlacierGuides$State" "guides" "[LGlacierGuides$Guide;") ∈ wsL_law := wch4 _ (List.mem_of_getElem? (i := 6) rfl)
theorem q79 : (Cond.methodLink RX5 33 yX5_isClass) ∈ wsL_law := wch4 _ (List.mem_of_getElem? (i := 7) rfl)
theorem q80 : (Cond.static yX5_isClass) ∈ wsL_law := wch4 _ (List.mem_of_getElem? (i := 8) rfl)
theorem q81 : (Cond.code yX5_isClass cX5_isClass 1 (some .boolean)) ∈ wsL_law := wch4 _ (List.mem_of_getElem? (i := 9) rfl)
theorem q82 : (Cond.methodLink RX5 37 yX5_isLastDay) ∈ wsL_law := wch4 _ (List.mem_of_getElem? (i := 10) rfl)
theorem q83 : (Cond.static yX5_isLastDay) ∈ wsL_law := wch4 _ (List.mem_of_getElem? (i := 11) rfl)
theorem q84 : (Cond.code yX5_isLastDay cX5_isLastDay 1 (some .boolean)) ∈ wsL_law := wch4 _ (List.mem_of_getElem? (i := 12) rfl)
theorem q85 : (Cond.methodLink RX5 44 yX1_record) ∈ wsL_law := wch4 _ (List.mem_of_getElem? (i := 13) rfl)
theorem q86 : (Cond.instanceMethod yX1_record) ∈ wsL_law := wch4 _ (List.mem_of_getElem? (i := 14) rfl)
theorem q87 : (Cond.selects RX1 yX1_record yX1_record) ∈ wsL_law := wch4 _ (List.mem_of_getElem? (i := 15) rfl)
theorem q88 : (Cond.code yX1_record cX1_record 2 none) ∈ wsL_law := wch4 _ (List.mem_of_getElem? (i := 16) rfl)
theorem q89 : (Cond.fieldLink RX1 18 "GlacierGuides$History" "size" "I") ∈ wsL_law := wch4 _ (List.mem_of_getElem? (i := 17) rfl)
theorem q90 : (Cond.fieldLink RX1 22 "GlacierGuides$History" "oldest" "I") ∈ wsL_law := wch4 _ (List.mem_of_getElem? (i := 18) rfl)
theorem q91 : (Cond.methodLink RX1 25 yX2_copyFrom) ∈ wsL_law := wch4 _ (List.mem_of_getElem? (i := 19) rfl)
theorem q92 : (Cond.instanceMethod yX2_copyFrom) ∈ wsL_law := wch4 _ (List.mem_of_getElem? (i := 20) rfl)
theorem q93 : (Cond.selects RX2 yX2_copyFrom yX2_copyFrom) ∈ wsL_law := wch4 _ (List.mem_of_getElem? (i := 21) rfl)
theorem q94 : (Cond.code yX2_copyFrom cX2_copyFrom 3 none) ∈ wsL_law := wch4 _ (List.mem_of_getElem? (i := 22) rfl)
theorem q95 : (Cond.fieldLink RX2 29 "GlacierGuides$State" "guideCount" "I") ∈ wsL_law := wch4 _ (List.mem_of_getElem? (i := 23) rfl)
theorem q96 : (Cond.methodLink RX2 37 arraycopyName) ∈ wsL_law := wch5 _ (List.mem_of_getElem? (i := 0) rfl)
theorem q97 : (Cond.native arraycopyName) ∈ wsL_law := wch5 _ (List.mem_of_getElem? (i := 1) rfl)
theorem q98 : (Cond.static arraycopyName) ∈ wsL_law := wch5 _ (List.mem_of_getElem? (i := 2) rfl)
theorem q99 : (Cond.initialized "java/lang/System") ∈ wsL_law := wch5 _ (List.mem_of_getElem? (i := 3) rfl)
theorem q100 : (Cond.fieldLink RX2 43 "GlacierGuides$State" "tourCount" "I") ∈ wsL_law := wch5 _ (List.mem_of_getElem? (i := 4) rfl)
theorem q101 : (Cond.fieldLink RX2 49 "GlacierGuides$State" "bridgeCount" "I") ∈ wsL_law := wch5 _ (List.mem_of_getElem? (i := 5) rfl)
theorem q102 : (Cond.fieldLink RX2 52 "GlacierGuides$State" "day" "I") ∈ wsL_law := wch5 _ (List.mem_of_getElem? (i := 6) rfl)
theorem q103 : (Cond.fieldLink RX2 55 "GlacierGuides$State" "degreeBits" "J") ∈ wsL_law := wch5 _ (List.mem_of_getElem? (i := 7) rfl)
theorem q104 : (Cond.fieldLink RX2 59 "GlacierGuides$State" "degrees" "D") ∈ wsL_law := wch5 _ (List.mem_of_getElem? (i := 8) rfl)
theorem q105 : (Cond.fieldLink RX2 63 "GlacierGuides$State" "refunded" "I") ∈ wsL_law := wch5 _ (List.mem_of_getElem? (i := 9) rfl)
theorem q106 : (Cond.methodLink RX2 33 yX0_copyFrom) ∈ wsL_law := wch5 _ (List.mem_of_getElem? (i := 10) rfl)
theorem q107 : (Cond.instanceMethod yX0_copyFrom) ∈ wsL_law := wch5 _ (List.mem_of_getElem? (i := 11) rfl)
theorem q108 : (Cond.selects RX0 yX0_copyFrom yX0_copyFrom) ∈ wsL_law := wch5 _ (List.mem_of_getElem? (i := 12) rfl)
theorem q109 : (Cond.code yX0_copyFrom cX0_copyFrom 2 none) ∈ wsL_law := wch5 _ (List.mem_of_getElem? (i := 13) rfl)
theorem q110 : (Cond.fieldLink RX0 20 "GlacierGuides$Guide" "kind" "I") ∈ wsL_law := wch5 _ (List.mem_of_getElem? (i := 14) rfl)
theorem q111 : (Cond.fieldLink RX0 23 "GlacierGuides$Guide" "until" "I") ∈ wsL_law := wch5 _ (List.mem_of_getElem? (i := 15) rfl)
theorem q112 : (Cond.fieldLink RX0 13 "GlacierGuides$Guide" "toursLed" "I") ∈ wsL_law := wch5 _ (List.mem_of_getElem? (i := 16) rfl)
theorem q113 : (Cond.fieldLink RX0 17 "GlacierGuides$Guide" "guestsLed" "I") ∈ wsL_law := wch5 _ (List.mem_of_getElem? (i := 17) rfl)
theorem q114 : (Cond.methodLink RX0 7 yX0_certify) ∈ wsL_law := wch5 _ (List.mem_of_getElem? (i := 18) rfl)
theorem q115 : (Cond.instanceMethod yX0_certify) ∈ wsL_law := wch5 _ (List.mem_of_getElem? (i := 19) rfl)
theorem q116 : (Cond.selects RX0 yX0_certify yX0_certify) ∈ wsL_law := wch5 _ (List.mem_of_getElem? (i := 20) rfl)
theorem q117 : (Cond.code yX0_certify cX0_certify 3 none) ∈ wsL_law := wch5 _ (List.mem_of_getElem? (i := 21) rfl)
theorem q118 : (Cond.methodLink RX2 46 yX4_copyFrom) ∈ wsL_law := wch5 _ (List.mem_of_getElem? (i := 22) rfl)
theorem q119 : (Cond.instanceMethod yX4_copyFrom) ∈ wsL_law := wch5 _ (List.mem_of_getElem? (i := 23) rfl)
theorem q120 : (Cond.selects RX4 yX4_copyFrom yX4_copyFrom) ∈ wsL_law := wch6 _ (List.mem_of_getElem? (i := 0) rfl)
theorem q121 : (Cond.code yX4_copyFrom cX4_copyFrom 2 none) ∈ wsL_law := wch6 _ (List.mem_of_getElem? (i := 1) rfl)
theorem q122 : (Cond.methodLink RX4 51 arraycopyName) ∈ wsL_law := wch6 _ (List.mem_of_getElem? (i := 2) rfl)
theorem q123 : (Cond.fieldLink RX4 15 "GlacierGuides$Tour" "day" "I") ∈ wsL_law := wch6 _ (List.mem_of_getElem? (i := 3) rfl)
theorem q124 : (Cond.fieldLink RX4 19 "GlacierGuides$Tour" "slope" "D") ∈ wsL_law := wch6 _ (List.mem_of_getElem? (i := 4) rfl)
theorem q125 : (Cond.fieldLink RX4 27 "GlacierGuides$Tour" "base" "I") ∈ wsL_law := wch6 _ (List.mem_of_getElem? (i := 5) rfl)
theorem q126 : (Cond.fieldLink RX4 30 "GlacierGuides$Tour" "price" "I") ∈ wsL_law := wch6 _ (List.mem_of_getElem? (i := 6) rfl)
theorem q127 : (Cond.fieldLink RX4 33 "GlacierGuides$Tour" "bridges" "I") ∈ wsL_law := wch6 _ (List.mem_of_getElem? (i := 7) rfl)
theorem q128 : (Cond.fieldLink RX4 36 "GlacierGuides$Tour" "guests" "I") ∈ wsL_law := wch6 _ (List.mem_of_getElem? (i := 8) rfl)
theorem q129 : (Cond.fieldLink RX4 39 "GlacierGuides$Tour" "guides" "I") ∈ wsL_law := wch6 _ (List.mem_of_getElem? (i := 9) rfl)
theorem q130 : (Cond.fieldLink RX4 42 "GlacierGuides$Tour" "paid" "I") ∈ wsL_law := wch6 _ (List.mem_of_getElem? (i := 10) rfl)
theorem q131 : (Cond.fieldLink RX4 45 "GlacierGuides$Tour" "state" "I") ∈ wsL_law := wch6 _ (List.mem_of_getElem? (i := 11) rfl)
theorem q132 : (Cond.fieldLink RX4 48 "GlacierGuides$Tour" "cause" "I") ∈ wsL_law := wch6 _ (List.mem_of_getElem? (i := 12) rfl)
theorem q133 : (Cond.methodLink RX5 52 yX0_begin) ∈ wsL_law := wch6 _ (List.mem_of_getElem? (i := 13) rfl)
theorem q134 : (Cond.instanceMethod yX0_begin) ∈ wsL_law := wch6 _ (List.mem_of_getElem? (i := 14) rfl)
theorem q135 : (Cond.selects RX0 yX0_begin yX0_begin) ∈ wsL_law := wch6 _ (List.mem_of_getElem? (i := 15) rfl)
theorem q136 : (Cond.code yX0_begin cX0_begin 3 none) ∈ wsL_law := wch6 _ (List.mem_of_getElem? (i := 16) rfl)
theorem q137 : (Cond.methodLink RL 17 yX6_addGuide) ∈ wsL_law := wch6 _ (List.mem_of_getElem? (i := 17) rfl)
theorem q138 : (Cond.instanceMethod yX6_addGuide) ∈ wsL_law := wch6 _ (List.mem_of_getElem? (i := 18) rfl)
theorem q139 : (Cond.selects RX6 yX6_addGuide yX6_addGuide) ∈ wsL_law := wch6 _ (List.mem_of_getElem? (i := 19) rfl)
theorem q140 : (Cond.code yX6_addGuide cX6_addGuide 4 (some .int)) ∈ wsL_law := wch6 _ (List.mem_of_getElem? (i := 20) rfl)
theorem q141 : (Cond.methodLink RX6 45 yX6_isCertificate) ∈ wsL_law := wch6 _ (List.mem_of_getElem? (i := 21) rfl)
theorem q142 : (Cond.static yX6_isCertificate) ∈ wsL_law := wch6 _ (List.mem_of_getElem? (i := 22) rfl)
theorem q143 : (Cond.code yX6_isCertificate cX6_isCertificate 2 (some .boolean)) ∈ wsL_law := wch6 _ (List.mem_of_getElem? (i := 23) rfl)
theorem q144 : (Cond.methodLink RX6 37 yX6_in) ∈ wsL_law := wch7 _ (List.mem_of_getElem? (i := 0) rfl)
theorem q145 : (Cond.static yX6_in) ∈ wsL_law := wch7 _ (List.mem_of_getElem? (i := 1) rfl)
theorem q146 : (Cond.code yX6_in cX6_in 3 (some .boolean)) ∈ wsL_law := wch7 _ (List.mem_of_getElem? (i := 2) rfl)
theorem q147 : (Cond.methodLink RX6 49 yX6_record) ∈ wsL_law := wch7 _ (List.mem_of_getElem? (i := 3) rfl)
theorem q148 : (Cond.instanceMethod yX6_record) ∈ wsL_law := wch7 _ (List.mem_of_getElem? (i := 4) rfl)
theorem q149 : (Cond.selects RX6 yX6_record yX6_record) ∈ wsL_law := wch7 _ (List.mem_of_getElem? (i := 5) rfl)
theorem q150 : (Cond.code yX6_record cX6_record 2 none) ∈ wsL_law := wch7 _ (List.mem_of_getElem? (i := 6) rfl)
theorem q151 : (Cond.fieldLink RX6 33 "GlacierGuidesModel" "kept" "I") ∈ wsL_law := wch7 _ (List.mem_of_getElem? (i := 7) rfl)
theorem q152 : (Cond.methodLink RL 18 yX5_renew) ∈ wsL_law := wch7 _ (List.mem_of_getElem? (i := 8) rfl)
theorem q153 : (Cond.instanceMethod yX5_renew) ∈ wsL_law := wch7 _ (List.mem_of_getElem? (i := 9) rfl)
theorem q154 : (Cond.selects RX5 yX5_renew yX5_renew) ∈ wsL_law := wch7 _ (List.mem_of_getElem? (i := 10) rfl)
theorem q155 : (Cond.code yX5_renew cX5_renew 6 (some .int)) ∈ wsL_law := wch7 _ (List.mem_of_getElem? (i := 11) rfl)
theorem q156 : (Cond.fieldLink RX5 62 "GlacierGuides$Guide" "kind" "I") ∈ wsL_law := wch7 _ (List.mem_of_getElem? (i := 12) rfl)
theorem q157 : (Cond.fieldLink RX5 65 "GlacierGuides$Guide" "until" "I") ∈ wsL_law := wch7 _ (List.mem_of_getElem? (i := 13) rfl)
theorem q158 : (Cond.methodLink RX5 58 yX2_guideAt) ∈ wsL_law := wch7 _ (List.mem_of_getElem? (i := 14) rfl)
theorem q159 : (Cond.instanceMethod yX2_guideAt) ∈ wsL_law := wch7 _ (List.mem_of_getElem? (i := 15) rfl)
theorem q160 : (Cond.selects RX2 yX2_guideAt yX2_guideAt) ∈ wsL_law := wch7 _ (List.mem_of_getElem? (i := 16) rfl)
theorem q161 : (Cond.code yX2_guideAt cX2_guideAt 2 (some (.object "GlacierGuides$Guide"))) ∈ wsL_law := wch7 _ (List.mem_of_getElem? (i := 17) rfl)
theorem q162 : (Cond.methodLink RX5 68 yX0_certify) ∈ wsL_law := wch7 _ (List.mem_of_getElem? (i := 18) rfl)
theorem q163 : (Cond.methodLink RL 22 yX6_renew) ∈ wsL_law := wch7 _ (List.mem_of_getElem? (i := 19) rfl)
theorem q164 : (Cond.instanceMethod yX6_renew) ∈ wsL_law := wch7 _ (List.mem_of_getElem? (i := 20) rfl)
theorem q165 : (Cond.selects RX6 yX6_renew yX6_renew) ∈ wsL_law := wch7 _ (List.mem_of_getElem? (i := 21) rfl)
theorem q166 : (Cond.code yX6_renew cX6_renew 5 (some .int)) ∈ wsL_law := wch7 _ (List.mem_of_getElem? (i := 22) rfl)
theorem q167 : (Cond.methodLink RX6 52 yX6_noGuide) ∈ wsL_law := wch7 _ (List.mem_of_getElem? (i := 23) rfl)
theorem q168 : (Cond.instanceMethod yX6_noGuide) ∈ wsL_law := wch8 _ (List.mem_of_getElem? (i := 0) rfl)
theorem q169 : (Cond.selects RX6 yX6_noGuide yX6_noGuide) ∈ wsL_law := wch8 _ (List.mem_of_getElem? (i := 1) rfl)
theorem q170 : (Cond.code yX6_noGuide cX6_noGuide 2 (some .boolean)) ∈ wsL_law := wch8 _ (List.mem_of_getElem? (i := 2) rfl)
theorem q171 : (Cond.methodLink RX6 56 yX6_ofGuide) ∈ wsL_law := wch8 _ (List.mem_of_getElem? (i := 3) rfl)
theorem q172 : (Cond.instanceMethod yX6_ofGuide) ∈ wsL_law := wch8 _ (List.mem_of_getElem? (i := 4) rfl)
theorem q173 : (Cond.selects RX6 yX6_ofGuide yX6_ofGuide) ∈ wsL_law := wch8 _ (List.mem_of_getElem? (i := 5) rfl)
theorem q174 : (Cond.code yX6_ofGuide cX6_ofGuide 3 (some .int)) ∈ wsL_law := wch8 _ (List.mem_of_getElem? (i := 6) rfl)
theorem q175 : (Cond.methodLink RL 25 yX5_addBridge) ∈ wsL_law := wch8 _ (List.mem_of_getElem? (i := 7) rfl)
theorem q176 : (Cond.instanceMethod yX5_addBridge) ∈ wsL_law := wch8 _ (List.mem_of_getElem? (i := 8) rfl)
theorem q177 : (Cond.selects RX5 yX5_addBridge yX5_addBridge) ∈ wsL_law := wch8 _ (List.mem_of_getElem? (i := 9) rfl)
theorem q178 : (Cond.code yX5_addBridge cX5_addBridge 4 (some .int)) ∈ wsL_law := wch8 _ (List.mem_of_getElem? (i := 10) rfl)
theorem q179 : (Cond.constantLong RX5 71 (4647503709213818880)) ∈ wsL_law := wch8 _ (List.mem_of_getElem? (i := 11) rfl)
theorem q180 : (Cond.fieldLink RX5 77 "GlacierGuides$State" "bridgeCount" "I") ∈ wsL_law := wch8 _ (List.mem_of_getElem? (i := 12) rfl)
theorem q181 : (Cond.fieldLink RX5 80 "GlacierGuides$State" "thicknesses" "[D") ∈ wsL_law := wch8 _ (List.mem_of_getElem? (i := 13) rfl)
theorem q182 : (Cond.methodLink RX5 73 yX5_isFromZeroTo) ∈ wsL_law := wch8 _ (List.mem_of_getElem? (i := 14) rfl)
theorem q183 : (Cond.static yX5_isFromZeroTo) ∈ wsL_law := wch8 _ (List.mem_of_getElem? (i := 15) rfl)
theorem q184 : (Cond.code yX5_isFromZeroTo cX5_isFromZeroTo 4 (some .boolean)) ∈ wsL_law := wch8 _ (List.mem_of_getElem? (i := 16) rfl)
theorem q185 : (Cond.methodLink RX5 84 yX5_numberOf) ∈ wsL_law := wch8 _ (List.mem_of_getElem? (i := 17) rfl)
theorem q186 : (Cond.static yX5_numberOf) ∈ wsL_law := wch8 _ (List.mem_of_getElem? (i := 18) rfl)
theorem q187 : (Cond.code yX5_numberOf cX5_numberOf 7 (some .double)) ∈ wsL_law := wch8 _ (List.mem_of_getElem? (i := 19) rfl)
theorem q188 : (Cond.constantLong RX5 300 (4503599627370495)) ∈ wsL_law := wch8 _ (List.mem_of_getElem? (i := 20) rfl)
theorem q189 : (Cond.constantLong RX5 306 (4503599627370496)) ∈ wsL_law := wch8 _ (List.mem_of_getElem? (i := 21) rfl)
theorem q190 : (Cond.methodLink RX5 302 yX5_halved) ∈ wsL_law := wch8 _ (List.mem_of_getElem? (i := 22) rfl)
theorem q191 : (Cond.static yX5_halved) ∈ wsL_law := wch8 _ (List.mem_of_getElem? (i := 23) rfl)
theorem q192 : (Cond.code yX5_halved cX5_halved 6 (some .double)) ∈ wsL_law := wch9 _ (List.mem_of_getElem? (i := 0) rfl)
theorem q193 : (Cond.constantDouble RX5 308 (4602678819172646912)) ∈ wsL_law := wch9 _ (List.mem_of_getElem? (i := 1) rfl)
theorem q194 : (Cond.methodLink RL 29 yX6_addBridge) ∈ wsL_law := wch9 _ (List.mem_of_getElem? (i := 2) rfl)
theorem q195 : (Cond.instanceMethod yX6_addBridge) ∈ wsL_law := wch9 _ (List.mem_of_getElem? (i := 3) rfl)
theorem q196 : (Cond.selects RX6 yX6_addBridge yX6_addBridge) ∈ wsL_law := wch9 _ (List.mem_of_getElem? (i := 4) rfl)
theorem q197 : (Cond.code yX6_addBridge cX6_addBridge 3 (some .int)) ∈ wsL_law := wch9 _ (List.mem_of_getElem? (i := 5) rfl)
theorem q198 : (Cond.constantDouble RX6 67 (4647503709213818880)) ∈ wsL_law := wch9 _ (List.mem_of_getElem? (i := 6) rfl)
theorem q199 : (Cond.methodLink RX6 61 ⟨"java/lang/Double", "longBitsToDouble", "(J)D"⟩) ∈ wsL_law := wch9 _ (List.mem_of_getElem? (i := 7) rfl)
theorem q200 : (Cond.native ⟨"java/lang/Double", "longBitsToDouble", "(J)D"⟩) ∈ wsL_law := wch9 _ (List.mem_of_getElem? (i := 8) rfl)
theorem q201 : (Cond.static ⟨"java/lang/Double", "longBitsToDouble", "(J)D"⟩) ∈ wsL_law := wch9 _ (List.mem_of_getElem? (i := 9) rfl)
theorem q202 : (Cond.initialized "java/lang/Double") ∈ wsL_law := wch9 _ (List.mem_of_getElem? (i := 10) rfl)
theorem q203 : (Cond.methodLink RX6 69 yX6_isUpTo) ∈ wsL_law := wch9 _ (List.mem_of_getElem? (i := 11) rfl)
theorem q204 : (Cond.static yX6_isUpTo) ∈ wsL_law := wch9 _ (List.mem_of_getElem? (i := 12) rfl)
theorem q205 : (Cond.code yX6_isUpTo cX6_isUpTo 6 (some .boolean)) ∈ wsL_law := wch9 _ (List.mem_of_getElem? (i := 13) rfl)
theorem q206 : (Cond.constantLong RX6 59 (9218868437227405312)) ∈ wsL_law := wch9 _ (List.mem_of_getElem? (i := 14) rfl)
theorem q207 : (Cond.methodLink RL 30 yX5_setTemperature) ∈ wsL_law := wch9 _ (List.mem_of_getElem? (i := 15) rfl)
theorem q208 : (Cond.instanceMethod yX5_setTemperature) ∈ wsL_law := wch9 _ (List.mem_of_getElem? (i := 16) rfl)
theorem q209 : (Cond.selects RX5 yX5_setTemperature yX5_setTemperature) ∈ wsL_law := wch9 _ (List.mem_of_getElem? (i := 17) rfl)
theorem q210 : (Cond.code yX5_setTemperature cX5_setTemperature 5 (some .int)) ∈ wsL_law := wch9 _ (List.mem_of_getElem? (i := 18) rfl)
theorem q211 : (Cond.fieldLink RX5 92 "GlacierGuides$State" "degrees" "D") ∈ wsL_law := wch9 _ (List.mem_of_getElem? (i := 19) rfl)
theorem q212 : (Cond.fieldLink RX5 96 "GlacierGuides$State" "degreeBits" "J") ∈ wsL_law := wch9 _ (List.mem_of_getElem? (i := 20) rfl)
theorem q213 : (Cond.methodLink RX5 88 yX5_isTemperature) ∈ wsL_law := wch9 _ (List.mem_of_getElem? (i := 21) rfl)
theorem q214 : (Cond.static yX5_isTemperature) ∈ wsL_law := wch9 _ (List.mem_of_getElem? (i := 22) rfl)
theorem q215 : (Cond.code yX5_isTemperature cX5_isTemperature 2 (some .boolean)) ∈ wsL_law := wch9 _ (List.mem_of_getElem? (i := 23) rfl)
theorem q216 : (Cond.constantLong RX5 294 (4630826316843712512)) ∈ wsL_law := wch10 _ (List.mem_of_getElem? (i := 0) rfl)
theorem q217 : (Cond.constantLong RX5 296 (9223372036854775807)) ∈ wsL_law := wch10 _ (List.mem_of_getElem? (i := 1) rfl)
theorem q218 : (Cond.constantLong RX5 298 (4629137466983448576)) ∈ wsL_law := wch10 _ (List.mem_of_getElem? (i := 2) rfl)
theorem q219 : (Cond.methodLink RL 33 yX6_setTemperature) ∈ wsL_law := wch10 _ (List.mem_of_getElem? (i := 3) rfl)
theorem q220 : (Cond.instanceMethod yX6_setTemperature) ∈ wsL_law := wch10 _ (List.mem_of_getElem? (i := 4) rfl)
theorem q221 : (Cond.selects RX6 yX6_setTemperature yX6_setTemperature) ∈ wsL_law := wch10 _ (List.mem_of_getElem? (i := 5) rfl)
theorem q222 : (Cond.code yX6_setTemperature cX6_setTemperature 6 (some .int)) ∈ wsL_law := wch10 _ (List.mem_of_getElem? (i := 6) rfl)
theorem q223 : (Cond.constantLong RX6 73 (9223372036854775807)) ∈ wsL_law := wch10 _ (List.mem_of_getElem? (i := 7) rfl)
theorem q224 : (Cond.constantDouble RX6 75 (13854198353698488320)) ∈ wsL_law := wch10 _ (List.mem_of_getElem? (i := 8) rfl)
theorem q225 : (Cond.constantDouble RX6 77 (4629137466983448576)) ∈ wsL_law := wch10 _ (List.mem_of_getElem? (i := 9) rfl)
theorem q226 : (Cond.methodLink RL 34 yX5_addTour) ∈ wsL_law := wch10 _ (List.mem_of_getElem? (i := 10) rfl)
theorem q227 : (Cond.instanceMethod yX5_addTour) ∈ wsL_law := wch10 _ (List.mem_of_getElem? (i := 11) rfl)
theorem q228 : (Cond.selects RX5 yX5_addTour yX5_addTour) ∈ wsL_law := wch10 _ (List.mem_of_getElem? (i := 12) rfl)
theorem q229 : (Cond.code yX5_addTour cX5_addTour 7 (some .int)) ∈ wsL_law := wch10 _ (List.mem_of_getElem? (i := 13) rfl)
theorem q230 : (Cond.fieldLink RX5 100 "GlacierGuides$State" "day" "I") ∈ wsL_law := wch10 _ (List.mem_of_getElem? (i := 14) rfl)
theorem q231 : (Cond.constantLong RX5 103 (4633641066610819072)) ∈ wsL_law := wch10 _ (List.mem_of_getElem? (i := 15) rfl)
theorem q232 : (Cond.fieldLink RX5 108 "GlacierGuides$State" "tourCount" "I") ∈ wsL_law := wch10 _ (List.mem_of_getElem? (i := 16) rfl)
theorem q233 : (Cond.fieldLink RX5 111 "GlacierGuides$State" "tours" "[LGlacierGuides$Tour;") ∈ wsL_law := wch10 _ (List.mem_of_getElem? (i := 17) rfl)
theorem q234 : (Cond.methodLink RX5 105 yX2_hasBridges) ∈ wsL_law := wch10 _ (List.mem_of_getElem? (i := 18) rfl)
theorem q235 : (Cond.instanceMethod yX2_hasBridges) ∈ wsL_law := wch10 _ (List.mem_of_getElem? (i := 19) rfl)
theorem q236 : (Cond.selects RX2 yX2_hasBridges yX2_hasBridges) ∈ wsL_law := wch10 _ (List.mem_of_getElem? (i := 20) rfl)
theorem q237 : (Cond.code yX2_hasBridges cX2_hasBridges 2 (some .boolean)) ∈ wsL_law := wch10 _ (List.mem_of_getElem? (i := 21) rfl)
theorem q238 : (Cond.methodLink RX5 115 yX4_begin) ∈ wsL_law := wch10 _ (List.mem_of_getElem? (i := 22) rfl)
theorem q239 : (Cond.instanceMethod yX4_begin) ∈ wsL_law := wch10 _ (List.mem_of_getElem? (i := 23) rfl)
theorem q240 : (Cond.selects RX4 yX4_begin yX4_begin) ∈ wsL_law := wch11 _ (List.mem_of_getElem? (i := 0) rfl)
theorem q241 : (Cond.code yX4_begin cX4_begin 6 none) ∈ wsL_law := wch11 _ (List.mem_of_getElem? (i := 1) rfl)
theorem q242 : (Cond.methodLink RX4 23 yX4_baseOf) ∈ wsL_law := wch11 _ (List.mem_of_getElem? (i := 2) rfl)
theorem q243 : (Cond.static yX4_baseOf) ∈ wsL_law := wch11 _ (List.mem_of_getElem? (i := 3) rfl)
theorem q244 : (Cond.code yX4_baseOf cX4_baseOf 2 (some .int)) ∈ wsL_law := wch11 _ (List.mem_of_getElem? (i := 4) rfl)
theorem q245 : (Cond.constantDouble RX4 57 (4624633867356078080)) ∈ wsL_law := wch11 _ (List.mem_of_getElem? (i := 5) rfl)
theorem q246 : (Cond.constantDouble RX4 59 (4629137466983448576)) ∈ wsL_law := wch11 _ (List.mem_of_getElem? (i := 6) rfl)
theorem q247 : (Cond.constantDouble RX4 61 (4631530004285489152)) ∈ wsL_law := wch11 _ (List.mem_of_getElem? (i := 7) rfl)
theorem q248 : (Cond.methodLink RL 38 yX6_addTour) ∈ wsL_law := wch11 _ (List.mem_of_getElem? (i := 8) rfl)
theorem q249 : (Cond.instanceMethod yX6_addTour) ∈ wsL_law := wch11 _ (List.mem_of_getElem? (i := 9) rfl)
theorem q250 : (Cond.selects RX6 yX6_addTour yX6_addTour) ∈ wsL_law := wch11 _ (List.mem_of_getElem? (i := 10) rfl)
theorem q251 : (Cond.code yX6_addTour cX6_addTour 8 (some .int)) ∈ wsL_law := wch11 _ (List.mem_of_getElem? (i := 11) rfl)
theorem q252 : (Cond.constantDouble RX6 108 (4633641066610819072)) ∈ wsL_law := wch11 _ (List.mem_of_getElem? (i := 12) rfl)
theorem q253 : (Cond.methodLink RX6 110 yX6_to) ∈ wsL_law := wch11 _ (List.mem_of_getElem? (i := 13) rfl)
theorem q254 : (Cond.instanceMethod yX6_to) ∈ wsL_law := wch11 _ (List.mem_of_getElem? (i := 14) rfl)
theorem q255 : (Cond.selects RX6 yX6_to yX6_to) ∈ wsL_law := wch11 _ (List.mem_of_getElem? (i := 15) rfl)
theorem q256 : (Cond.code yX6_to cX6_to 4 none) ∈ wsL_law := wch11 _ (List.mem_of_getElem? (i := 16) rfl)
theorem q257 : (Cond.methodLink RL 39 yX5_book) ∈ wsL_law := wch11 _ (List.mem_of_getElem? (i := 17) rfl)
theorem q258 : (Cond.instanceMethod yX5_book) ∈ wsL_law := wch11 _ (List.mem_of_getElem? (i := 18) rfl)
theorem q259 : (Cond.selects RX5 yX5_book yX5_book) ∈ wsL_law := wch11 _ (List.mem_of_getElem? (i := 19) rfl)
theorem q260 : (Cond.code yX5_book cX5_book 5 (some .int)) ∈ wsL_law := wch11 _ (List.mem_of_getElem? (i := 20) rfl)
theorem q261 : (Cond.fieldLink RX5 127 "GlacierGuides$Tour" "state" "I") ∈ wsL_law := wch11 _ (List.mem_of_getElem? (i := 21) rfl)
theorem q262 : (Cond.fieldLink RX5 130 "GlacierGuides$Tour" "guests" "I") ∈ wsL_law := wch11 _ (List.mem_of_getElem? (i := 22) rfl)
theorem q263 : (Cond.fieldLink RX5 133 "GlacierGuides$Tour" "price" "I") ∈ wsL_law := wch11 _ (List.mem_of_getElem? (i := 23) rfl)
theorem q264 : (Cond.fieldLink RX5 136 "GlacierGuides$Tour" "paid" "I") ∈ wsL_law := wch12 _ (List.mem_of_getElem? (i := 0) rfl)
theorem q265 : (Cond.methodLink RX5 120 yX2_tourAt) ∈ wsL_law := wch12 _ (List.mem_of_getElem? (i := 1) rfl)
theorem q266 : (Cond.instanceMethod yX2_tourAt) ∈ wsL_law := wch12 _ (List.mem_of_getElem? (i := 2) rfl)
theorem q267 : (Cond.selects RX2 yX2_tourAt yX2_tourAt) ∈ wsL_law := wch12 _ (List.mem_of_getElem? (i := 3) rfl)
theorem q268 : (Cond.code yX2_tourAt cX2_tourAt 2 (some (.object "GlacierGuides$Tour"))) ∈ wsL_law := wch12 _ (List.mem_of_getElem? (i := 4) rfl)
theorem q269 : (Cond.methodLink RX5 124 yX5_isGuests) ∈ wsL_law := wch12 _ (List.mem_of_getElem? (i := 5) rfl)
theorem q270 : (Cond.static yX5_isGuests) ∈ wsL_law := wch12 _ (List.mem_of_getElem? (i := 6) rfl)
theorem q271 : (Cond.code yX5_isGuests cX5_isGuests 1 (some .boolean)) ∈ wsL_law := wch12 _ (List.mem_of_getElem? (i := 7) rfl)
theorem q272 : (Cond.methodLink RL 42 yX6_book) ∈ wsL_law := wch12 _ (List.mem_of_getElem? (i := 8) rfl)
theorem q273 : (Cond.instanceMethod yX6_book) ∈ wsL_law := wch12 _ (List.mem_of_getElem? (i := 9) rfl)
theorem q274 : (Cond.selects RX6 yX6_book yX6_book) ∈ wsL_law := wch12 _ (List.mem_of_getElem? (i := 10) rfl)
theorem q275 : (Cond.code yX6_book cX6_book 4 (some .int)) ∈ wsL_law := wch12 _ (List.mem_of_getElem? (i := 11) rfl)
theorem q276 : (Cond.methodLink RX6 114 yX6_noTour) ∈ wsL_law := wch12 _ (List.mem_of_getElem? (i := 12) rfl)
theorem q277 : (Cond.instanceMethod yX6_noTour) ∈ wsL_law := wch12 _ (List.mem_of_getElem? (i := 13) rfl)
theorem q278 : (Cond.selects RX6 yX6_noTour yX6_noTour) ∈ wsL_law := wch12 _ (List.mem_of_getElem? (i := 14) rfl)
theorem q279 : (Cond.code yX6_noTour cX6_noTour 2 (some .boolean)) ∈ wsL_law := wch12 _ (List.mem_of_getElem? (i := 15) rfl)
theorem q280 : (Cond.methodLink RX6 117 yX6_isOpen) ∈ wsL_law := wch12 _ (List.mem_of_getElem? (i := 16) rfl)
theorem q281 : (Cond.instanceMethod yX6_isOpen) ∈ wsL_law := wch12 _ (List.mem_of_getElem? (i := 17) rfl)
theorem q282 : (Cond.selects RX6 yX6_isOpen yX6_isOpen) ∈ wsL_law := wch12 _ (List.mem_of_getElem? (i := 18) rfl)
theorem q283 : (Cond.code yX6_isOpen cX6_isOpen 2 (some .boolean)) ∈ wsL_law := wch12 _ (List.mem_of_getElem? (i := 19) rfl)
theorem q284 : (Cond.methodLink RX6 41 yX6_of) ∈ wsL_law := wch12 _ (List.mem_of_getElem? (i := 20) rfl)
theorem q285 : (Cond.instanceMethod yX6_of) ∈ wsL_law := wch12 _ (List.mem_of_getElem? (i := 21) rfl)
theorem q286 : (Cond.selects RX6 yX6_of yX6_of) ∈ wsL_law := wch12 _ (List.mem_of_getElem? (i := 22) rfl)
theorem q287 : (Cond.code yX6_of cX6_of 3 (some .int)) ∈ wsL_law := wch12 _ (List.mem_of_getElem? (i := 23) rfl)
theorem q288 : (Cond.methodLink RL 43 yX5_leave) ∈ wsL_law := wch13 _ (List.mem_of_getElem? (i := 0) rfl)
theorem q289 : (Cond.instanceMethod yX5_leave) ∈ wsL_law := wch13 _ (List.mem_of_getElem? (i := 1) rfl)
theorem q290 : (Cond.selects RX5 yX5_leave yX5_leave) ∈ wsL_law := wch13 _ (List.mem_of_getElem? (i := 2) rfl)
theorem q291 : (Cond.code yX5_leave cX5_leave 5 (some .int)) ∈ wsL_law := wch13 _ (List.mem_of_getElem? (i := 3) rfl)
theorem q292 : (Cond.methodLink RX5 139 yX4_refundFor) ∈ wsL_law := wch13 _ (List.mem_of_getElem? (i := 4) rfl)
theorem q293 : (Cond.instanceMethod yX4_refundFor) ∈ wsL_law := wch13 _ (List.mem_of_getElem? (i := 5) rfl)
theorem q294 : (Cond.selects RX4 yX4_refundFor yX4_refundFor) ∈ wsL_law := wch13 _ (List.mem_of_getElem? (i := 6) rfl)
theorem q295 : (Cond.code yX4_refundFor cX4_refundFor 3 (some .int)) ∈ wsL_law := wch13 _ (List.mem_of_getElem? (i := 7) rfl)
theorem q296 : (Cond.methodLink RX4 63 yX4_shareAt) ∈ wsL_law := wch13 _ (List.mem_of_getElem? (i := 8) rfl)
theorem q297 : (Cond.static yX4_shareAt) ∈ wsL_law := wch13 _ (List.mem_of_getElem? (i := 9) rfl)
theorem q298 : (Cond.code yX4_shareAt cX4_shareAt 1 (some .double)) ∈ wsL_law := wch13 _ (List.mem_of_getElem? (i := 10) rfl)
theorem q299 : (Cond.constantDouble RX4 67 (4604930618986332160)) ∈ wsL_law := wch13 _ (List.mem_of_getElem? (i := 11) rfl)
theorem q300 : (Cond.constantDouble RX4 69 (4602678819172646912)) ∈ wsL_law := wch13 _ (List.mem_of_getElem? (i := 12) rfl)
theorem q301 : (Cond.methodLink RX5 143 yX2_payBack) ∈ wsL_law := wch13 _ (List.mem_of_getElem? (i := 13) rfl)
theorem q302 : (Cond.instanceMethod yX2_payBack) ∈ wsL_law := wch13 _ (List.mem_of_getElem? (i := 14) rfl)
theorem q303 : (Cond.selects RX2 yX2_payBack yX2_payBack) ∈ wsL_law := wch13 _ (List.mem_of_getElem? (i := 15) rfl)
theorem q304 : (Cond.code yX2_payBack cX2_payBack 3 none) ∈ wsL_law := wch13 _ (List.mem_of_getElem? (i := 16) rfl)
theorem q305 : (Cond.fieldLink RX2 149 "GlacierGuides$Tour" "paid" "I") ∈ wsL_law := wch13 _ (List.mem_of_getElem? (i := 17) rfl)
theorem q306 : (Cond.methodLink RL 46 yX6_leave) ∈ wsL_law := wch13 _ (List.mem_of_getElem? (i := 18) rfl)
theorem q307 : (Cond.instanceMethod yX6_leave) ∈ wsL_law := wch13 _ (List.mem_of_getElem? (i := 19) rfl)
theorem q308 : (Cond.selects RX6 yX6_leave yX6_leave) ∈ wsL_law := wch13 _ (List.mem_of_getElem? (i := 20) rfl)
theorem q309 : (Cond.code yX6_leave cX6_leave 7 (some .int)) ∈ wsL_law := wch13 _ (List.mem_of_getElem? (i := 21) rfl)
theorem q310 : (Cond.constantDouble RX6 120 (4604930618986332160)) ∈ wsL_law := wch13 _ (List.mem_of_getElem? (i := 22) rfl)
theorem q311 : (Cond.constantDouble RX6 122 (4602678819172646912)) ∈ wsL_law := wch13 _ (List.mem_of_getElem? (i := 23) rfl)
theorem q312 : (Cond.methodLink RX6 124 yX6_refunds) ∈ wsL_law := wch14 _ (List.mem_of_getElem? (i := 0) rfl)
theorem q313 : (Cond.instanceMethod yX6_refunds) ∈ wsL_law := wch14 _ (List.mem_of_getElem? (i := 1) rfl)
theorem q314 : (Cond.selects RX6 yX6_refunds yX6_refunds) ∈ wsL_law := wch14 _ (List.mem_of_getElem? (i := 2) rfl)
theorem q315 : (Cond.code yX6_refunds cX6_refunds 3 none) ∈ wsL_law := wch14 _ (List.mem_of_getElem? (i := 3) rfl)
theorem q316 : (Cond.methodLink RL 47 yX5_lead) ∈ wsL_law := wch14 _ (List.mem_of_getElem? (i := 4) rfl)
theorem q317 : (Cond.instanceMethod yX5_lead) ∈ wsL_law := wch14 _ (List.mem_of_getElem? (i := 5) rfl)
theorem q318 : (Cond.selects RX5 yX5_lead yX5_lead) ∈ wsL_law := wch14 _ (List.mem_of_getElem? (i := 6) rfl)
theorem q319 : (Cond.code yX5_lead cX5_lead 4 (some .int)) ∈ wsL_law := wch14 _ (List.mem_of_getElem? (i := 7) rfl)
theorem q320 : (Cond.fieldLink RX5 151 "GlacierGuides$Tour" "guides" "I") ∈ wsL_law := wch14 _ (List.mem_of_getElem? (i := 8) rfl)
theorem q321 : (Cond.methodLink RX5 147 yX2_mayLead) ∈ wsL_law := wch14 _ (List.mem_of_getElem? (i := 9) rfl)
theorem q322 : (Cond.instanceMethod yX2_mayLead) ∈ wsL_law := wch14 _ (List.mem_of_getElem? (i := 10) rfl)
theorem q323 : (Cond.selects RX2 yX2_mayLead yX2_mayLead) ∈ wsL_law := wch14 _ (List.mem_of_getElem? (i := 11) rfl)
theorem q324 : (Cond.code yX2_mayLead cX2_mayLead 3 (some .boolean)) ∈ wsL_law := wch14 _ (List.mem_of_getElem? (i := 12) rfl)
theorem q325 : (Cond.fieldLink RX2 66 "GlacierGuides$Tour" "state" "I") ∈ wsL_law := wch14 _ (List.mem_of_getElem? (i := 13) rfl)
theorem q326 : (Cond.fieldLink RX2 69 "GlacierGuides$Tour" "day" "I") ∈ wsL_law := wch14 _ (List.mem_of_getElem? (i := 14) rfl)
theorem q327 : (Cond.methodLink RX2 70 yX0_isValidOn) ∈ wsL_law := wch14 _ (List.mem_of_getElem? (i := 15) rfl)
theorem q328 : (Cond.instanceMethod yX0_isValidOn) ∈ wsL_law := wch14 _ (List.mem_of_getElem? (i := 16) rfl)
theorem q329 : (Cond.selects RX0 yX0_isValidOn yX0_isValidOn) ∈ wsL_law := wch14 _ (List.mem_of_getElem? (i := 17) rfl)
theorem q330 : (Cond.code yX0_isValidOn cX0_isValidOn 2 (some .boolean)) ∈ wsL_law := wch14 _ (List.mem_of_getElem? (i := 18) rfl)
theorem q331 : (Cond.methodLink RX2 74 yX2_isBusyOn) ∈ wsL_law := wch14 _ (List.mem_of_getElem? (i := 19) rfl)
theorem q332 : (Cond.instanceMethod yX2_isBusyOn) ∈ wsL_law := wch14 _ (List.mem_of_getElem? (i := 20) rfl)
theorem q333 : (Cond.selects RX2 yX2_isBusyOn yX2_isBusyOn) ∈ wsL_law := wch14 _ (List.mem_of_getElem? (i := 21) rfl)
theorem q334 : (Cond.code yX2_isBusyOn cX2_isBusyOn 4 (some .boolean)) ∈ wsL_law := wch14 _ (List.mem_of_getElem? (i := 22) rfl)
theorem q335 : (Cond.methodLink RX2 78 yX4_hasInRow) ∈ wsL_law := wch14 _ (List.mem_of_getElem? (i := 23) rfl)
theorem q336 : (Cond.instanceMethod yX4_hasInRow) ∈ wsL_law := wch15 _ (List.mem_of_getElem? (i := 0) rfl)
theorem q337 : (Cond.selects RX4 yX4_hasInRow yX4_hasInRow) ∈ wsL_law := wch15 _ (List.mem_of_getElem? (i := 1) rfl)
theorem q338 : (Cond.code yX4_hasInRow cX4_hasInRow 3 (some .boolean)) ∈ wsL_law := wch15 _ (List.mem_of_getElem? (i := 2) rfl)
theorem q339 : (Cond.methodLink RX5 153 yX4_addToRow) ∈ wsL_law := wch15 _ (List.mem_of_getElem? (i := 3) rfl)
theorem q340 : (Cond.instanceMethod yX4_addToRow) ∈ wsL_law := wch15 _ (List.mem_of_getElem? (i := 4) rfl)
theorem q341 : (Cond.selects RX4 yX4_addToRow yX4_addToRow) ∈ wsL_law := wch15 _ (List.mem_of_getElem? (i := 5) rfl)
theorem q342 : (Cond.code yX4_addToRow cX4_addToRow 2 none) ∈ wsL_law := wch15 _ (List.mem_of_getElem? (i := 6) rfl)
theorem q343 : (Cond.methodLink RX5 157 yX2_ratioOf) ∈ wsL_law := wch15 _ (List.mem_of_getElem? (i := 7) rfl)
theorem q344 : (Cond.instanceMethod yX2_ratioOf) ∈ wsL_law := wch15 _ (List.mem_of_getElem? (i := 8) rfl)
theorem q345 : (Cond.selects RX2 yX2_ratioOf yX2_ratioOf) ∈ wsL_law := wch15 _ (List.mem_of_getElem? (i := 9) rfl)
theorem q346 : (Cond.code yX2_ratioOf cX2_ratioOf 4 (some .int)) ∈ wsL_law := wch15 _ (List.mem_of_getElem? (i := 10) rfl)
theorem q347 : (Cond.fieldLink RX2 81 "GlacierGuides$Tour" "base" "I") ∈ wsL_law := wch15 _ (List.mem_of_getElem? (i := 11) rfl)
theorem q348 : (Cond.fieldLink RX2 84 "GlacierGuides$Guide" "kind" "I") ∈ wsL_law := wch15 _ (List.mem_of_getElem? (i := 12) rfl)
theorem q349 : (Cond.methodLink RL 50 yX6_lead) ∈ wsL_law := wch15 _ (List.mem_of_getElem? (i := 13) rfl)
theorem q350 : (Cond.instanceMethod yX6_lead) ∈ wsL_law := wch15 _ (List.mem_of_getElem? (i := 14) rfl)
theorem q351 : (Cond.selects RX6 yX6_lead yX6_lead) ∈ wsL_law := wch15 _ (List.mem_of_getElem? (i := 15) rfl)
theorem q352 : (Cond.code yX6_lead cX6_lead 3 (some .int)) ∈ wsL_law := wch15 _ (List.mem_of_getElem? (i := 16) rfl)
theorem q353 : (Cond.methodLink RX6 134 yX6_mayLead) ∈ wsL_law := wch15 _ (List.mem_of_getElem? (i := 17) rfl)
theorem q354 : (Cond.instanceMethod yX6_mayLead) ∈ wsL_law := wch15 _ (List.mem_of_getElem? (i := 18) rfl)
theorem q355 : (Cond.selects RX6 yX6_mayLead yX6_mayLead) ∈ wsL_law := wch15 _ (List.mem_of_getElem? (i := 19) rfl)
theorem q356 : (Cond.code yX6_mayLead cX6_mayLead 3 (some .boolean)) ∈ wsL_law := wch15 _ (List.mem_of_getElem? (i := 20) rfl)
theorem q357 : (Cond.methodLink RX6 131 yX6_isBusy) ∈ wsL_law := wch15 _ (List.mem_of_getElem? (i := 21) rfl)
theorem q358 : (Cond.instanceMethod yX6_isBusy) ∈ wsL_law := wch15 _ (List.mem_of_getElem? (i := 22) rfl)
theorem q359 : (Cond.selects RX6 yX6_isBusy yX6_isBusy) ∈ wsL_law := wch15 _ (List.mem_of_getElem? (i := 23) rfl)
theorem q360 : (Cond.code yX6_isBusy cX6_isBusy 4 (some .boolean)) ∈ wsL_law := wch16 _ (List.mem_of_getElem? (i := 0) rfl)
theorem q361 : (Cond.methodLink RX6 128 yX6_leads) ∈ wsL_law := wch16 _ (List.mem_of_getElem? (i := 1) rfl)
theorem q362 : (Cond.instanceMethod yX6_leads) ∈ wsL_law := wch16 _ (List.mem_of_getElem? (i := 2) rfl)
theorem q363 : (Cond.selects RX6 yX6_leads yX6_leads) ∈ wsL_law := wch16 _ (List.mem_of_getElem? (i := 3) rfl)
theorem q364 : (Cond.code yX6_leads cX6_leads 4 (some .boolean)) ∈ wsL_law := wch16 _ (List.mem_of_getElem? (i := 4) rfl)
theorem q365 : (Cond.methodLink RX6 87 yX6_guideOn) ∈ wsL_law := wch16 _ (List.mem_of_getElem? (i := 5) rfl)
theorem q366 : (Cond.instanceMethod yX6_guideOn) ∈ wsL_law := wch16 _ (List.mem_of_getElem? (i := 6) rfl)
theorem q367 : (Cond.selects RX6 yX6_guideOn yX6_guideOn) ∈ wsL_law := wch16 _ (List.mem_of_getElem? (i := 7) rfl)
theorem q368 : (Cond.code yX6_guideOn cX6_guideOn 3 (some .int)) ∈ wsL_law := wch16 _ (List.mem_of_getElem? (i := 8) rfl)
theorem q369 : (Cond.methodLink RX6 90 yX6_ratio) ∈ wsL_law := wch16 _ (List.mem_of_getElem? (i := 9) rfl)
theorem q370 : (Cond.instanceMethod yX6_ratio) ∈ wsL_law := wch16 _ (List.mem_of_getElem? (i := 10) rfl)
theorem q371 : (Cond.selects RX6 yX6_ratio yX6_ratio) ∈ wsL_law := wch16 _ (List.mem_of_getElem? (i := 11) rfl)
theorem q372 : (Cond.code yX6_ratio cX6_ratio 4 (some .int)) ∈ wsL_law := wch16 _ (List.mem_of_getElem? (i := 12) rfl)
theorem q373 : (Cond.methodLink RX6 83 yX6_baseOf) ∈ wsL_law := wch16 _ (List.mem_of_getElem? (i := 13) rfl)
theorem q374 : (Cond.instanceMethod yX6_baseOf) ∈ wsL_law := wch16 _ (List.mem_of_getElem? (i := 14) rfl)
theorem q375 : (Cond.selects RX6 yX6_baseOf yX6_baseOf) ∈ wsL_law := wch16 _ (List.mem_of_getElem? (i := 15) rfl)
theorem q376 : (Cond.code yX6_baseOf cX6_baseOf 4 (some .int)) ∈ wsL_law := wch16 _ (List.mem_of_getElem? (i := 16) rfl)
theorem q377 : (Cond.constantDouble RX6 79 (4624633867356078080)) ∈ wsL_law := wch16 _ (List.mem_of_getElem? (i := 17) rfl)
theorem q378 : (Cond.constantDouble RX6 81 (4631530004285489152)) ∈ wsL_law := wch16 _ (List.mem_of_getElem? (i := 18) rfl)
theorem q379 : (Cond.methodLink RL 51 yX5_release) ∈ wsL_law := wch16 _ (List.mem_of_getElem? (i := 19) rfl)
theorem q380 : (Cond.instanceMethod yX5_release) ∈ wsL_law := wch16 _ (List.mem_of_getElem? (i := 20) rfl)
theorem q381 : (Cond.selects RX5 yX5_release yX5_release) ∈ wsL_law := wch16 _ (List.mem_of_getElem? (i := 21) rfl)
theorem q382 : (Cond.code yX5_release cX5_release 4 (some .int)) ∈ wsL_law := wch16 _ (List.mem_of_getElem? (i := 22) rfl)
theorem q383 : (Cond.methodLink RX5 161 yX4_hasInRow) ∈ wsL_law := wch16 _ (List.mem_of_getElem? (i := 23) rfl)
theorem q384 : (Cond.methodLink RX5 164 yX4_takeFromRow) ∈ wsL_law := wch17 _ (List.mem_of_getElem? (i := 0) rfl)
theorem q385 : (Cond.instanceMethod yX4_takeFromRow) ∈ wsL_law := wch17 _ (List.mem_of_getElem? (i := 1) rfl)
theorem q386 : (Cond.selects RX4 yX4_takeFromRow yX4_takeFromRow) ∈ wsL_law := wch17 _ (List.mem_of_getElem? (i := 2) rfl)
theorem q387 : (Cond.code yX4_takeFromRow cX4_takeFromRow 4 none) ∈ wsL_law := wch17 _ (List.mem_of_getElem? (i := 3) rfl)
theorem q388 : (Cond.methodLink RX5 167 yX2_leftAfter) ∈ wsL_law := wch17 _ (List.mem_of_getElem? (i := 4) rfl)
theorem q389 : (Cond.instanceMethod yX2_leftAfter) ∈ wsL_law := wch17 _ (List.mem_of_getElem? (i := 5) rfl)
theorem q390 : (Cond.selects RX2 yX2_leftAfter yX2_leftAfter) ∈ wsL_law := wch17 _ (List.mem_of_getElem? (i := 6) rfl)
theorem q391 : (Cond.code yX2_leftAfter cX2_leftAfter 5 (some .int)) ∈ wsL_law := wch17 _ (List.mem_of_getElem? (i := 7) rfl)
theorem q392 : (Cond.fieldLink RX2 87 "GlacierGuides$Tour" "guests" "I") ∈ wsL_law := wch17 _ (List.mem_of_getElem? (i := 8) rfl)
theorem q393 : (Cond.fieldLink RX2 90 "GlacierGuides$Tour" "row" "[I") ∈ wsL_law := wch17 _ (List.mem_of_getElem? (i := 9) rfl)
theorem q394 : (Cond.methodLink RX2 94 yX2_ratioOf) ∈ wsL_law := wch17 _ (List.mem_of_getElem? (i := 10) rfl)
theorem q395 : (Cond.methodLink RL 54 yX6_release) ∈ wsL_law := wch17 _ (List.mem_of_getElem? (i := 11) rfl)
theorem q396 : (Cond.instanceMethod yX6_release) ∈ wsL_law := wch17 _ (List.mem_of_getElem? (i := 12) rfl)
theorem q397 : (Cond.selects RX6 yX6_release yX6_release) ∈ wsL_law := wch17 _ (List.mem_of_getElem? (i := 13) rfl)
theorem q398 : (Cond.code yX6_release cX6_release 5 (some .int)) ∈ wsL_law := wch17 _ (List.mem_of_getElem? (i := 14) rfl)
theorem q399 : (Cond.methodLink RX6 105 yX6_leftOver) ∈ wsL_law := wch17 _ (List.mem_of_getElem? (i := 15) rfl)
theorem q400 : (Cond.instanceMethod yX6_leftOver) ∈ wsL_law := wch17 _ (List.mem_of_getElem? (i := 16) rfl)
theorem q401 : (Cond.selects RX6 yX6_leftOver yX6_leftOver) ∈ wsL_law := wch17 _ (List.mem_of_getElem? (i := 17) rfl)
theorem q402 : (Cond.code yX6_leftOver cX6_leftOver 2 (some .int)) ∈ wsL_law := wch17 _ (List.mem_of_getElem? (i := 18) rfl)
theorem q403 : (Cond.methodLink RX6 93 yX6_onRope) ∈ wsL_law := wch17 _ (List.mem_of_getElem? (i := 19) rfl)
theorem q404 : (Cond.instanceMethod yX6_onRope) ∈ wsL_law := wch17 _ (List.mem_of_getElem? (i := 20) rfl)
theorem q405 : (Cond.selects RX6 yX6_onRope yX6_onRope) ∈ wsL_law := wch17 _ (List.mem_of_getElem? (i := 21) rfl)
theorem q406 : (Cond.code yX6_onRope cX6_onRope 6 (some .int)) ∈ wsL_law := wch17 _ (List.mem_of_getElem? (i := 22) rfl)
theorem q407 : (Cond.methodLink RL 55 yX5_merge) ∈ wsL_law := wch17 _ (List.mem_of_getElem? (i := 23) rfl)
theorem q408 : (Cond.instanceMethod yX5_merge) ∈ wsL_law := wch18 _ (List.mem_of_getElem? (i := 0) rfl)
theorem q409 : (Cond.selects RX5 yX5_merge yX5_merge) ∈ wsL_law := wch18 _ (List.mem_of_getElem? (i := 1) rfl)
theorem q410 : (Cond.code yX5_merge cX5_merge 7 (some .int)) ∈ wsL_law := wch18 _ (List.mem_of_getElem? (i := 2) rfl)
theorem q411 : (Cond.methodLink RX5 171 yX4_fitsInto) ∈ wsL_law := wch18 _ (List.mem_of_getElem? (i := 3) rfl)
theorem q412 : (Cond.instanceMethod yX4_fitsInto) ∈ wsL_law := wch18 _ (List.mem_of_getElem? (i := 4) rfl)
theorem q413 : (Cond.selects RX4 yX4_fitsInto yX4_fitsInto) ∈ wsL_law := wch18 _ (List.mem_of_getElem? (i := 5) rfl)
theorem q414 : (Cond.code yX4_fitsInto cX4_fitsInto 2 (some .boolean)) ∈ wsL_law := wch18 _ (List.mem_of_getElem? (i := 6) rfl)
theorem q415 : (Cond.methodLink RX5 175 yX4_moveInto) ∈ wsL_law := wch18 _ (List.mem_of_getElem? (i := 7) rfl)
theorem q416 : (Cond.instanceMethod yX4_moveInto) ∈ wsL_law := wch18 _ (List.mem_of_getElem? (i := 8) rfl)
theorem q417 : (Cond.selects RX4 yX4_moveInto yX4_moveInto) ∈ wsL_law := wch18 _ (List.mem_of_getElem? (i := 9) rfl)
theorem q418 : (Cond.code yX4_moveInto cX4_moveInto 3 none) ∈ wsL_law := wch18 _ (List.mem_of_getElem? (i := 10) rfl)
theorem q419 : (Cond.methodLink RX4 71 yX4_addToRow) ∈ wsL_law := wch18 _ (List.mem_of_getElem? (i := 11) rfl)
theorem q420 : (Cond.methodLink RL 58 yX6_merge) ∈ wsL_law := wch18 _ (List.mem_of_getElem? (i := 12) rfl)
theorem q421 : (Cond.instanceMethod yX6_merge) ∈ wsL_law := wch18 _ (List.mem_of_getElem? (i := 13) rfl)
theorem q422 : (Cond.selects RX6 yX6_merge yX6_merge) ∈ wsL_law := wch18 _ (List.mem_of_getElem? (i := 14) rfl)
theorem q423 : (Cond.code yX6_merge cX6_merge 6 (some .int)) ∈ wsL_law := wch18 _ (List.mem_of_getElem? (i := 15) rfl)
theorem q424 : (Cond.methodLink RX6 137 yX6_mayMerge) ∈ wsL_law := wch18 _ (List.mem_of_getElem? (i := 16) rfl)
theorem q425 : (Cond.instanceMethod yX6_mayMerge) ∈ wsL_law := wch18 _ (List.mem_of_getElem? (i := 17) rfl)
theorem q426 : (Cond.selects RX6 yX6_mayMerge yX6_mayMerge) ∈ wsL_law := wch18 _ (List.mem_of_getElem? (i := 18) rfl)
theorem q427 : (Cond.code yX6_mayMerge cX6_mayMerge 5 (some .boolean)) ∈ wsL_law := wch18 _ (List.mem_of_getElem? (i := 19) rfl)
theorem q428 : (Cond.methodLink RL 59 yX5_cancel) ∈ wsL_law := wch18 _ (List.mem_of_getElem? (i := 20) rfl)
theorem q429 : (Cond.instanceMethod yX5_cancel) ∈ wsL_law := wch18 _ (List.mem_of_getElem? (i := 21) rfl)
theorem q430 : (Cond.selects RX5 yX5_cancel yX5_cancel) ∈ wsL_law := wch18 _ (List.mem_of_getElem? (i := 22) rfl)
theorem q431 : (Cond.code yX5_cancel cX5_cancel 3 (some .int)) ∈ wsL_law := wch18 _ (List.mem_of_getElem? (i := 23) rfl)
theorem q432 : (Cond.methodLink RX5 179 yX2_callOff) ∈ wsL_law := wch19 _ (List.mem_of_getElem? (i := 0) rfl)
theorem q433 : (Cond.instanceMethod yX2_callOff) ∈ wsL_law := wch19 _ (List.mem_of_getElem? (i := 1) rfl)
theorem q434 : (Cond.selects RX2 yX2_callOff yX2_callOff) ∈ wsL_law := wch19 _ (List.mem_of_getElem? (i := 2) rfl)
theorem q435 : (Cond.code yX2_callOff cX2_callOff 4 (some .int)) ∈ wsL_law := wch19 _ (List.mem_of_getElem? (i := 3) rfl)
theorem q436 : (Cond.fieldLink RX2 152 "GlacierGuides$Tour" "cause" "I") ∈ wsL_law := wch19 _ (List.mem_of_getElem? (i := 4) rfl)
theorem q437 : (Cond.methodLink RX2 155 yX2_payBack) ∈ wsL_law := wch19 _ (List.mem_of_getElem? (i := 5) rfl)
theorem q438 : (Cond.methodLink RL 63 yX6_cancel) ∈ wsL_law := wch19 _ (List.mem_of_getElem? (i := 6) rfl)
theorem q439 : (Cond.instanceMethod yX6_cancel) ∈ wsL_law := wch19 _ (List.mem_of_getElem? (i := 7) rfl)
theorem q440 : (Cond.selects RX6 yX6_cancel yX6_cancel) ∈ wsL_law := wch19 _ (List.mem_of_getElem? (i := 8) rfl)
theorem q441 : (Cond.code yX6_cancel cX6_cancel 2 (some .int)) ∈ wsL_law := wch19 _ (List.mem_of_getElem? (i := 9) rfl)
theorem q442 : (Cond.methodLink RX6 140 yX6_cancels) ∈ wsL_law := wch19 _ (List.mem_of_getElem? (i := 10) rfl)
theorem q443 : (Cond.instanceMethod yX6_cancels) ∈ wsL_law := wch19 _ (List.mem_of_getElem? (i := 11) rfl)
theorem q444 : (Cond.selects RX6 yX6_cancels yX6_cancels) ∈ wsL_law := wch19 _ (List.mem_of_getElem? (i := 12) rfl)
theorem q445 : (Cond.code yX6_cancels cX6_cancels 4 (some .int)) ∈ wsL_law := wch19 _ (List.mem_of_getElem? (i := 13) rfl)
theorem q446 : (Cond.methodLink RL 64 yX5_pass) ∈ wsL_law := wch19 _ (List.mem_of_getElem? (i := 14) rfl)
theorem q447 : (Cond.instanceMethod yX5_pass) ∈ wsL_law := wch19 _ (List.mem_of_getElem? (i := 15) rfl)
theorem q448 : (Cond.selects RX5 yX5_pass yX5_pass) ∈ wsL_law := wch19 _ (List.mem_of_getElem? (i := 16) rfl)
theorem q449 : (Cond.code yX5_pass cX5_pass 4 (some .int)) ∈ wsL_law := wch19 _ (List.mem_of_getElem? (i := 17) rfl)
theorem q450 : (Cond.methodLink RX5 182 yX2_passDay) ∈ wsL_law := wch19 _ (List.mem_of_getElem? (i := 18) rfl)
theorem q451 : (Cond.instanceMethod yX2_passDay) ∈ wsL_law := wch19 _ (List.mem_of_getElem? (i := 19) rfl)
theorem q452 : (Cond.selects RX2 yX2_passDay yX2_passDay) ∈ wsL_law := wch19 _ (List.mem_of_getElem? (i := 20) rfl)
theorem q453 : (Cond.code yX2_passDay cX2_passDay 5 (some .int)) ∈ wsL_law := wch19 _ (List.mem_of_getElem? (i := 21) rfl)
theorem q454 : (Cond.methodLink RX2 128 yX2_causeAgainst) ∈ wsL_law := wch19 _ (List.mem_of_getElem? (i := 22) rfl)
theorem q455 : (Cond.instanceMethod yX2_causeAgainst) ∈ wsL_law := wch19 _ (List.mem_of_getElem? (i := 23) rfl)
theorem q456 : (Cond.selects RX2 yX2_causeAgainst yX2_causeAgainst) ∈ wsL_law := wch20 _ (List.mem_of_getElem? (i := 0) rfl)
theorem q457 : (Cond.code yX2_causeAgainst cX2_causeAgainst 2 (some .int)) ∈ wsL_law := wch20 _ (List.mem_of_getElem? (i := 1) rfl)
theorem q458 : (Cond.fieldLink RX2 102 "GlacierGuides$Tour" "guides" "I") ∈ wsL_law := wch20 _ (List.mem_of_getElem? (i := 2) rfl)
theorem q459 : (Cond.methodLink RX2 121 yX2_allBridgesHold) ∈ wsL_law := wch20 _ (List.mem_of_getElem? (i := 3) rfl)
theorem q460 : (Cond.instanceMethod yX2_allBridgesHold) ∈ wsL_law := wch20 _ (List.mem_of_getElem? (i := 4) rfl)
theorem q461 : (Cond.selects RX2 yX2_allBridgesHold yX2_allBridgesHold) ∈ wsL_law := wch20 _ (List.mem_of_getElem? (i := 5) rfl)
theorem q462 : (Cond.code yX2_allBridgesHold cX2_allBridgesHold 5 (some .boolean)) ∈ wsL_law := wch20 _ (List.mem_of_getElem? (i := 6) rfl)
theorem q463 : (Cond.fieldLink RX2 112 "GlacierGuides$Tour" "bridges" "I") ∈ wsL_law := wch20 _ (List.mem_of_getElem? (i := 7) rfl)
theorem q464 : (Cond.methodLink RX2 108 yX2_neededBy) ∈ wsL_law := wch20 _ (List.mem_of_getElem? (i := 8) rfl)
theorem q465 : (Cond.instanceMethod yX2_neededBy) ∈ wsL_law := wch20 _ (List.mem_of_getElem? (i := 9) rfl)
theorem q466 : (Cond.selects RX2 yX2_neededBy yX2_neededBy) ∈ wsL_law := wch20 _ (List.mem_of_getElem? (i := 10) rfl)
theorem q467 : (Cond.code yX2_neededBy cX2_neededBy 6 (some .double)) ∈ wsL_law := wch20 _ (List.mem_of_getElem? (i := 11) rfl)
theorem q468 : (Cond.constantDouble RX2 104 (4624633867356078080)) ∈ wsL_law := wch20 _ (List.mem_of_getElem? (i := 12) rfl)
theorem q469 : (Cond.constantDouble RX2 106 (4612811918334230528)) ∈ wsL_law := wch20 _ (List.mem_of_getElem? (i := 13) rfl)
theorem q470 : (Cond.methodLink RX2 98 yX2_leftAfter) ∈ wsL_law := wch20 _ (List.mem_of_getElem? (i := 14) rfl)
theorem q471 : (Cond.methodLink RX2 125 yX2_allGuidesAreValid) ∈ wsL_law := wch20 _ (List.mem_of_getElem? (i := 15) rfl)
theorem q472 : (Cond.instanceMethod yX2_allGuidesAreValid) ∈ wsL_law := wch20 _ (List.mem_of_getElem? (i := 16) rfl)
theorem q473 : (Cond.selects RX2 yX2_allGuidesAreValid yX2_allGuidesAreValid) ∈ wsL_law := wch20 _ (List.mem_of_getElem? (i := 17) rfl)
theorem q474 : (Cond.code yX2_allGuidesAreValid cX2_allGuidesAreValid 3 (some .boolean)) ∈ wsL_law := wch20 _ (List.mem_of_getElem? (i := 18) rfl)
theorem q475 : (Cond.methodLink RX2 132 yX2_letGo) ∈ wsL_law := wch20 _ (List.mem_of_getElem? (i := 19) rfl)
theorem q476 : (Cond.instanceMethod yX2_letGo) ∈ wsL_law := wch20 _ (List.mem_of_getElem? (i := 20) rfl)
theorem q477 : (Cond.selects RX2 yX2_letGo yX2_letGo) ∈ wsL_law := wch20 _ (List.mem_of_getElem? (i := 21) rfl)
theorem q478 : (Cond.code yX2_letGo cX2_letGo 3 none) ∈ wsL_law := wch20 _ (List.mem_of_getElem? (i := 22) rfl)
theorem q479 : (Cond.methodLink RX2 142 yX2_guestsOnRope) ∈ wsL_law := wch20 _ (List.mem_of_getElem? (i := 23) rfl)
theorem q480 : (Cond.instanceMethod yX2_guestsOnRope) ∈ wsL_law := wch21 _ (List.mem_of_getElem? (i := 0) rfl)
theorem q481 : (Cond.selects RX2 yX2_guestsOnRope yX2_guestsOnRope) ∈ wsL_law := wch21 _ (List.mem_of_getElem? (i := 1) rfl)
theorem q482 : (Cond.code yX2_guestsOnRope cX2_guestsOnRope 3 (some .int)) ∈ wsL_law := wch21 _ (List.mem_of_getElem? (i := 2) rfl)
theorem q483 : (Cond.methodLink RX2 145 yX0_haveLed) ∈ wsL_law := wch21 _ (List.mem_of_getElem? (i := 3) rfl)
theorem q484 : (Cond.instanceMethod yX0_haveLed) ∈ wsL_law := wch21 _ (List.mem_of_getElem? (i := 4) rfl)
theorem q485 : (Cond.selects RX0 yX0_haveLed yX0_haveLed) ∈ wsL_law := wch21 _ (List.mem_of_getElem? (i := 5) rfl)
theorem q486 : (Cond.code yX0_haveLed cX0_haveLed 2 none) ∈ wsL_law := wch21 _ (List.mem_of_getElem? (i := 6) rfl)
theorem q487 : (Cond.methodLink RX2 135 yX2_callOff) ∈ wsL_law := wch21 _ (List.mem_of_getElem? (i := 7) rfl)
theorem q488 : (Cond.methodLink RX2 138 yX2_dayLater) ∈ wsL_law := wch21 _ (List.mem_of_getElem? (i := 8) rfl)
theorem q489 : (Cond.instanceMethod yX2_dayLater) ∈ wsL_law := wch21 _ (List.mem_of_getElem? (i := 9) rfl)
theorem q490 : (Cond.selects RX2 yX2_dayLater yX2_dayLater) ∈ wsL_law := wch21 _ (List.mem_of_getElem? (i := 10) rfl)
theorem q491 : (Cond.code yX2_dayLater cX2_dayLater 5 (some .double)) ∈ wsL_law := wch21 _ (List.mem_of_getElem? (i := 11) rfl)
theorem q492 : (Cond.constantDouble RX2 115 (4609434218613702656)) ∈ wsL_law := wch21 _ (List.mem_of_getElem? (i := 12) rfl)
theorem q493 : (Cond.constantDouble RX2 117 (4598175219545276416)) ∈ wsL_law := wch21 _ (List.mem_of_getElem? (i := 13) rfl)
theorem q494 : (Cond.constantDouble RX2 119 (4647503709213818880)) ∈ wsL_law := wch21 _ (List.mem_of_getElem? (i := 14) rfl)
theorem q495 : (Cond.methodLink RL 67 yX6_pass) ∈ wsL_law := wch21 _ (List.mem_of_getElem? (i := 15) rfl)
theorem q496 : (Cond.instanceMethod yX6_pass) ∈ wsL_law := wch21 _ (List.mem_of_getElem? (i := 16) rfl)
theorem q497 : (Cond.selects RX6 yX6_pass yX6_pass) ∈ wsL_law := wch21 _ (List.mem_of_getElem? (i := 17) rfl)
theorem q498 : (Cond.code yX6_pass cX6_pass 4 (some .int)) ∈ wsL_law := wch21 _ (List.mem_of_getElem? (i := 18) rfl)
theorem q499 : (Cond.methodLink RX6 158 yX6_passes) ∈ wsL_law := wch21 _ (List.mem_of_getElem? (i := 19) rfl)
theorem q500 : (Cond.instanceMethod yX6_passes) ∈ wsL_law := wch21 _ (List.mem_of_getElem? (i := 20) rfl)
theorem q501 : (Cond.selects RX6 yX6_passes yX6_passes) ∈ wsL_law := wch21 _ (List.mem_of_getElem? (i := 21) rfl)
theorem q502 : (Cond.code yX6_passes cX6_passes 5 (some .int)) ∈ wsL_law := wch21 _ (List.mem_of_getElem? (i := 22) rfl)
theorem q503 : (Cond.methodLink RX6 147 yX6_causeOf) ∈ wsL_law := wch21 _ (List.mem_of_getElem? (i := 23) rfl)
theorem q504 : (Cond.instanceMethod yX6_causeOf) ∈ wsL_law := wch22 _ (List.mem_of_getElem? (i := 0) rfl)
theorem q505 : (Cond.selects RX6 yX6_causeOf yX6_causeOf) ∈ wsL_law := wch22 _ (List.mem_of_getElem? (i := 1) rfl)
theorem q506 : (Cond.code yX6_causeOf cX6_causeOf 4 (some .int)) ∈ wsL_law := wch22 _ (List.mem_of_getElem? (i := 2) rfl)
theorem q507 : (Cond.methodLink RX6 102 yX6_isHeld) ∈ wsL_law := wch22 _ (List.mem_of_getElem? (i := 3) rfl)
theorem q508 : (Cond.instanceMethod yX6_isHeld) ∈ wsL_law := wch22 _ (List.mem_of_getElem? (i := 4) rfl)
theorem q509 : (Cond.selects RX6 yX6_isHeld yX6_isHeld) ∈ wsL_law := wch22 _ (List.mem_of_getElem? (i := 5) rfl)
theorem q510 : (Cond.code yX6_isHeld cX6_isHeld 3 (some .boolean)) ∈ wsL_law := wch22 _ (List.mem_of_getElem? (i := 6) rfl)
theorem q511 : (Cond.methodLink RX6 98 yX6_neededBy) ∈ wsL_law := wch22 _ (List.mem_of_getElem? (i := 7) rfl)
theorem q512 : (Cond.instanceMethod yX6_neededBy) ∈ wsL_law := wch22 _ (List.mem_of_getElem? (i := 8) rfl)
theorem q513 : (Cond.selects RX6 yX6_neededBy yX6_neededBy) ∈ wsL_law := wch22 _ (List.mem_of_getElem? (i := 9) rfl)
theorem q514 : (Cond.code yX6_neededBy cX6_neededBy 4 (some .double)) ∈ wsL_law := wch22 _ (List.mem_of_getElem? (i := 10) rfl)
theorem q515 : (Cond.constantDouble RX6 96 (4612811918334230528)) ∈ wsL_law := wch22 _ (List.mem_of_getElem? (i := 11) rfl)
theorem q516 : (Cond.methodLink RX6 150 yX6_goes) ∈ wsL_law := wch22 _ (List.mem_of_getElem? (i := 12) rfl)
theorem q517 : (Cond.instanceMethod yX6_goes) ∈ wsL_law := wch22 _ (List.mem_of_getElem? (i := 13) rfl)
theorem q518 : (Cond.selects RX6 yX6_goes yX6_goes) ∈ wsL_law := wch22 _ (List.mem_of_getElem? (i := 14) rfl)
theorem q519 : (Cond.code yX6_goes cX6_goes 4 none) ∈ wsL_law := wch22 _ (List.mem_of_getElem? (i := 15) rfl)
theorem q520 : (Cond.methodLink RX6 154 yX6_changed) ∈ wsL_law := wch22 _ (List.mem_of_getElem? (i := 16) rfl)
theorem q521 : (Cond.instanceMethod yX6_changed) ∈ wsL_law := wch22 _ (List.mem_of_getElem? (i := 17) rfl)
theorem q522 : (Cond.selects RX6 yX6_changed yX6_changed) ∈ wsL_law := wch22 _ (List.mem_of_getElem? (i := 18) rfl)
theorem q523 : (Cond.code yX6_changed cX6_changed 7 (some .double)) ∈ wsL_law := wch22 _ (List.mem_of_getElem? (i := 19) rfl)
theorem q524 : (Cond.constantDouble RX6 143 (4609434218613702656)) ∈ wsL_law := wch22 _ (List.mem_of_getElem? (i := 20) rfl)
theorem q525 : (Cond.constantDouble RX6 145 (4598175219545276416)) ∈ wsL_law := wch22 _ (List.mem_of_getElem? (i := 21) rfl)
theorem q526 : (Cond.methodLink RL 68 yX5_type) ∈ wsL_law := wch22 _ (List.mem_of_getElem? (i := 22) rfl)
theorem q527 : (Cond.instanceMethod yX5_type) ∈ wsL_law := wch22 _ (List.mem_of_getElem? (i := 23) rfl)
theorem q528 : (Cond.selects RX5 yX5_type yX5_type) ∈ wsL_law := wch23 _ (List.mem_of_getElem? (i := 0) rfl)
theorem q529 : (Cond.code yX5_type cX5_type 2 (some .int)) ∈ wsL_law := wch23 _ (List.mem_of_getElem? (i := 1) rfl)
theorem q530 : (Cond.fieldLink RX5 186 "GlacierGuides$Text" "length" "I") ∈ wsL_law := wch23 _ (List.mem_of_getElem? (i := 2) rfl)
theorem q531 : (Cond.methodLink RX5 189 yX3_append) ∈ wsL_law := wch23 _ (List.mem_of_getElem? (i := 3) rfl)
theorem q532 : (Cond.instanceMethod yX3_append) ∈ wsL_law := wch23 _ (List.mem_of_getElem? (i := 4) rfl)
theorem q533 : (Cond.selects RX3 yX3_append yX3_append) ∈ wsL_law := wch23 _ (List.mem_of_getElem? (i := 5) rfl)
theorem q534 : (Cond.code yX3_append cX3_append 2 none) ∈ wsL_law := wch23 _ (List.mem_of_getElem? (i := 6) rfl)
theorem q535 : (Cond.fieldLink RX3 15 "GlacierGuides$Text" "length" "I") ∈ wsL_law := wch23 _ (List.mem_of_getElem? (i := 7) rfl)
theorem q536 : (Cond.methodLink RL 72 yX6_type) ∈ wsL_law := wch23 _ (List.mem_of_getElem? (i := 8) rfl)
theorem q537 : (Cond.instanceMethod yX6_type) ∈ wsL_law := wch23 _ (List.mem_of_getElem? (i := 9) rfl)
theorem q538 : (Cond.selects RX6 yX6_type yX6_type) ∈ wsL_law := wch23 _ (List.mem_of_getElem? (i := 10) rfl)
theorem q539 : (Cond.code yX6_type cX6_type 2 (some .int)) ∈ wsL_law := wch23 _ (List.mem_of_getElem? (i := 11) rfl)
theorem q540 : (Cond.fieldLink RX6 162 "GlacierGuidesModel" "typed" "I") ∈ wsL_law := wch23 _ (List.mem_of_getElem? (i := 12) rfl)
theorem q541 : (Cond.methodLink RL 73 yX5_clearText) ∈ wsL_law := wch23 _ (List.mem_of_getElem? (i := 13) rfl)
theorem q542 : (Cond.instanceMethod yX5_clearText) ∈ wsL_law := wch23 _ (List.mem_of_getElem? (i := 14) rfl)
theorem q543 : (Cond.selects RX5 yX5_clearText yX5_clearText) ∈ wsL_law := wch23 _ (List.mem_of_getElem? (i := 15) rfl)
theorem q544 : (Cond.code yX5_clearText cX5_clearText 2 (some .int)) ∈ wsL_law := wch23 _ (List.mem_of_getElem? (i := 16) rfl)
theorem q545 : (Cond.methodLink RL 77 yX6_clearText) ∈ wsL_law := wch23 _ (List.mem_of_getElem? (i := 17) rfl)
theorem q546 : (Cond.instanceMethod yX6_clearText) ∈ wsL_law := wch23 _ (List.mem_of_getElem? (i := 18) rfl)
theorem q547 : (Cond.selects RX6 yX6_clearText yX6_clearText) ∈ wsL_law := wch23 _ (List.mem_of_getElem? (i := 19) rfl)
theorem q548 : (Cond.code yX6_clearText cX6_clearText 2 (some .int)) ∈ wsL_law := wch23 _ (List.mem_of_getElem? (i := 20) rfl)
theorem q549 : (Cond.methodLink RL 78 yX5_perform) ∈ wsL_law := wch23 _ (List.mem_of_getElem? (i := 21) rfl)
theorem q550 : (Cond.instanceMethod yX5_perform) ∈ wsL_law := wch23 _ (List.mem_of_getElem? (i := 22) rfl)
theorem q551 : (Cond.selects RX5 yX5_perform yX5_perform) ∈ wsL_law := wch23 _ (List.mem_of_getElem? (i := 23) rfl)
theorem q552 : (Cond.code yX5_perform cX5_perform 2 (some .int)) ∈ wsL_law := wch24 _ (List.mem_of_getElem? (i := 0) rfl)
theorem q553 : (Cond.fieldLink RX5 196 "GlacierGuides$Text" "command" "I") ∈ wsL_law := wch24 _ (List.mem_of_getElem? (i := 1) rfl)
theorem q554 : (Cond.fieldLink RX5 199 "GlacierGuides$Text" "first" "I") ∈ wsL_law := wch24 _ (List.mem_of_getElem? (i := 2) rfl)
theorem q555 : (Cond.fieldLink RX5 202 "GlacierGuides$Text" "second" "I") ∈ wsL_law := wch24 _ (List.mem_of_getElem? (i := 3) rfl)
theorem q556 : (Cond.methodLink RX5 193 yX3_read) ∈ wsL_law := wch24 _ (List.mem_of_getElem? (i := 4) rfl)
theorem q557 : (Cond.instanceMethod yX3_read) ∈ wsL_law := wch24 _ (List.mem_of_getElem? (i := 5) rfl)
theorem q558 : (Cond.selects RX3 yX3_read yX3_read) ∈ wsL_law := wch24 _ (List.mem_of_getElem? (i := 6) rfl)
theorem q559 : (Cond.code yX3_read cX3_read 5 (some .int)) ∈ wsL_law := wch24 _ (List.mem_of_getElem? (i := 7) rfl)
theorem q560 : (Cond.fieldLink RX3 27 "GlacierGuides$Text" "command" "I") ∈ wsL_law := wch24 _ (List.mem_of_getElem? (i := 8) rfl)
theorem q561 : (Cond.methodLink RX3 19 yX3_wordLength) ∈ wsL_law := wch24 _ (List.mem_of_getElem? (i := 9) rfl)
theorem q562 : (Cond.instanceMethod yX3_wordLength) ∈ wsL_law := wch24 _ (List.mem_of_getElem? (i := 10) rfl)
theorem q563 : (Cond.selects RX3 yX3_wordLength yX3_wordLength) ∈ wsL_law := wch24 _ (List.mem_of_getElem? (i := 11) rfl)
theorem q564 : (Cond.code yX3_wordLength cX3_wordLength 2 (some .int)) ∈ wsL_law := wch24 _ (List.mem_of_getElem? (i := 12) rfl)
theorem q565 : (Cond.methodLink RX3 23 yX3_commandOf) ∈ wsL_law := wch24 _ (List.mem_of_getElem? (i := 13) rfl)
theorem q566 : (Cond.instanceMethod yX3_commandOf) ∈ wsL_law := wch24 _ (List.mem_of_getElem? (i := 14) rfl)
theorem q567 : (Cond.selects RX3 yX3_commandOf yX3_commandOf) ∈ wsL_law := wch24 _ (List.mem_of_getElem? (i := 15) rfl)
theorem q568 : (Cond.code yX3_commandOf cX3_commandOf 2 (some .int)) ∈ wsL_law := wch24 _ (List.mem_of_getElem? (i := 16) rfl)
theorem q569 : (Cond.methodLink RX3 46 yX3_isWord) ∈ wsL_law := wch24 _ (List.mem_of_getElem? (i := 17) rfl)
theorem q570 : (Cond.instanceMethod yX3_isWord) ∈ wsL_law := wch24 _ (List.mem_of_getElem? (i := 18) rfl)
theorem q571 : (Cond.selects RX3 yX3_isWord yX3_isWord) ∈ wsL_law := wch24 _ (List.mem_of_getElem? (i := 19) rfl)
theorem q572 : (Cond.code yX3_isWord cX3_isWord 4 (some .boolean)) ∈ wsL_law := wch24 _ (List.mem_of_getElem? (i := 20) rfl)
theorem q573 : (Cond.methodLink RX3 58 yJ0_length_8abf5) ∈ wsL_law := wch24 _ (List.mem_of_getElem? (i := 21) rfl)
theorem q574 : (Cond.instanceMethod yJ0_length_8abf5) ∈ wsL_law := wch24 _ (List.mem_of_getElem? (i := 22) rfl)
theorem q575 : (Cond.selects RJ0 yJ0_length_8abf5 yJ0_length_8abf5) ∈ wsL_law := wch24 _ (List.mem_of_getElem? (i := 23) rfl)
theorem q576 : (Cond.initialized RJ0) ∈ wsL_law := wch25 _ (List.mem_of_getElem? (i := 0) rfl)
theorem q577 : (Cond.code yJ0_length_8abf5 cJ0_length_8abf5 1 (some .int)) ∈ wsL_law := wch25 _ (List.mem_of_getElem? (i := 1) rfl)
theorem q578 : (Cond.fieldLink RJ0 9 "java/lang/String" "value" "[B") ∈ wsL_law := wch25 _ (List.mem_of_getElem? (i := 2) rfl)
theorem q579 : (Cond.methodLink RJ0 335 yJ0_coder_7d493) ∈ wsL_law := wch25 _ (List.mem_of_getElem? (i := 3) rfl)
theorem q580 : (Cond.instanceMethod yJ0_coder_7d493) ∈ wsL_law := wch25 _ (List.mem_of_getElem? (i := 4) rfl)
theorem q581 : (Cond.selects RJ0 yJ0_coder_7d493 yJ0_coder_7d493) ∈ wsL_law := wch25 _ (List.mem_of_getElem? (i := 5) rfl)
theorem q582 : (Cond.code yJ0_coder_7d493 cJ0_coder_7d493 1 (some .byte)) ∈ wsL_law := wch25 _ (List.mem_of_getElem? (i := 6) rfl)
theorem q583 : (Cond.fieldLink RJ0 38 "java/lang/String" "COMPACT_STRINGS" "Z") ∈ wsL_law := wch25 _ (List.mem_of_getElem? (i := 7) rfl)
theorem q584 : (Cond.fieldLink RJ0 15 "java/lang/String" "coder" "B") ∈ wsL_law := wch25 _ (List.mem_of_getElem? (i := 8) rfl)
theorem q585 : (Cond.methodLink RX3 62 yJ0_charAt_5068e) ∈ wsL_law := wch25 _ (List.mem_of_getElem? (i := 9) rfl)
theorem q586 : (Cond.instanceMethod yJ0_charAt_5068e) ∈ wsL_law := wch25 _ (List.mem_of_getElem? (i := 10) rfl)
theorem q587 : (Cond.selects RJ0 yJ0_charAt_5068e yJ0_charAt_5068e) ∈ wsL_law := wch25 _ (List.mem_of_getElem? (i := 11) rfl)
theorem q588 : (Cond.code yJ0_charAt_5068e cJ0_charAt_5068e 2 (some .char)) ∈ wsL_law := wch25 _ (List.mem_of_getElem? (i := 12) rfl)
theorem q589 : (Cond.methodLink RJ0 492 yJ0_isLatin1_aae02) ∈ wsL_law := wch25 _ (List.mem_of_getElem? (i := 13) rfl)
theorem q590 : (Cond.instanceMethod yJ0_isLatin1_aae02) ∈ wsL_law := wch25 _ (List.mem_of_getElem? (i := 14) rfl)
theorem q591 : (Cond.selects RJ0 yJ0_isLatin1_aae02 yJ0_isLatin1_aae02) ∈ wsL_law := wch25 _ (List.mem_of_getElem? (i := 15) rfl)
theorem q592 : (Cond.code yJ0_isLatin1_aae02 cJ0_isLatin1_aae02 1 (some .boolean)) ∈ wsL_law := wch25 _ (List.mem_of_getElem? (i := 16) rfl)
theorem q593 : (Cond.methodLink RJ0 495 yJ1_charAt_3b067) ∈ wsL_law := wch25 _ (List.mem_of_getElem? (i := 17) rfl)
theorem q594 : (Cond.static yJ1_charAt_3b067) ∈ wsL_law := wch25 _ (List.mem_of_getElem? (i := 18) rfl)
theorem q595 : (Cond.initialized RJ1) ∈ wsL_law := wch25 _ (List.mem_of_getElem? (i := 19) rfl)
theorem q596 : (Cond.code yJ1_charAt_3b067 cJ1_charAt_3b067 2 (some .char)) ∈ wsL_law := wch25 _ (List.mem_of_getElem? (i := 20) rfl)
theorem q597 : (Cond.methodLink RJ1 9 yJ0_checkIndex_df160) ∈ wsL_law := wch25 _ (List.mem_of_getElem? (i := 21) rfl)
theorem q598 : (Cond.static yJ0_checkIndex_df160) ∈ wsL_law := wch25 _ (List.mem_of_getElem? (i := 22) rfl)
theorem q599 : (Cond.code yJ0_checkIndex_df160 cJ0_checkIndex_df160 2 none) ∈ wsL_law := wch25 _ (List.mem_of_getElem? (i := 23) rfl)
theorem q600 : (Cond.fieldLink RJ0 1053 "jdk/internal/util/Preconditions" "SIOOBE_FORMATTER" "Ljava/util/function/BiFunction;") ∈ wsL_law := wch26 _ (List.mem_of_getElem? (i := 0) rfl)
theorem q601 : (Cond.methodLink RJ0 1059 yJ3_checkIndex_8e157) ∈ wsL_law := wch26 _ (List.mem_of_getElem? (i := 1) rfl)
theorem q602 : (Cond.static yJ3_checkIndex_8e157) ∈ wsL_law := wch26 _ (List.mem_of_getElem? (i := 2) rfl)
theorem q603 : (Cond.initialized RJ3) ∈ wsL_law := wch26 _ (List.mem_of_getElem? (i := 3) rfl)
theorem q604 : (Cond.code yJ3_checkIndex_8e157 cJ3_checkIndex_8e157 3 (some .int)) ∈ wsL_law := wch26 _ (List.mem_of_getElem? (i := 4) rfl)
theorem q605 : (Cond.methodLink RJ0 498 yJ2_charAt_3b067) ∈ wsL_law := wch26 _ (List.mem_of_getElem? (i := 5) rfl)
theorem q606 : (Cond.static yJ2_charAt_3b067) ∈ wsL_law := wch26 _ (List.mem_of_getElem? (i := 6) rfl)
theorem q607 : (Cond.initialized RJ2) ∈ wsL_law := wch26 _ (List.mem_of_getElem? (i := 7) rfl)
theorem q608 : (Cond.code yJ2_charAt_3b067 cJ2_charAt_3b067 2 (some .char)) ∈ wsL_law := wch26 _ (List.mem_of_getElem? (i := 8) rfl)
theorem q609 : (Cond.methodLink RJ2 67 yJ2_checkIndex_2214a) ∈ wsL_law := wch26 _ (List.mem_of_getElem? (i := 9) rfl)
theorem q610 : (Cond.static yJ2_checkIndex_2214a) ∈ wsL_law := wch26 _ (List.mem_of_getElem? (i := 10) rfl)
theorem q611 : (Cond.code yJ2_checkIndex_2214a cJ2_checkIndex_2214a 2 none) ∈ wsL_law := wch26 _ (List.mem_of_getElem? (i := 11) rfl)
theorem q612 : (Cond.methodLink RJ2 48 yJ2_length_9d52b) ∈ wsL_law := wch26 _ (List.mem_of_getElem? (i := 12) rfl)
theorem q613 : (Cond.static yJ2_length_9d52b) ∈ wsL_law := wch26 _ (List.mem_of_getElem? (i := 13) rfl)
theorem q614 : (Cond.code yJ2_length_9d52b cJ2_length_9d52b 1 (some .int)) ∈ wsL_law := wch26 _ (List.mem_of_getElem? (i := 14) rfl)
theorem q615 : (Cond.methodLink RJ2 414 yJ0_checkIndex_df160) ∈ wsL_law := wch26 _ (List.mem_of_getElem? (i := 15) rfl)
theorem q616 : (Cond.methodLink RJ2 71 yJ2_getChar_3b067) ∈ wsL_law := wch26 _ (List.mem_of_getElem? (i := 16) rfl)
theorem q617 : (Cond.static yJ2_getChar_3b067) ∈ wsL_law := wch26 _ (List.mem_of_getElem? (i := 17) rfl)
theorem q618 : (Cond.code yJ2_getChar_3b067 cJ2_getChar_3b067 2 (some .char)) ∈ wsL_law := wch26 _ (List.mem_of_getElem? (i := 18) rfl)
theorem q619 : (Cond.fieldLink RJ2 44 "java/lang/StringUTF16" "$assertionsDisabled" "Z") ∈ wsL_law := wch26 _ (List.mem_of_getElem? (i := 19) rfl)
theorem q620 : (Cond.fieldLink RJ2 59 "java/lang/StringUTF16" "HI_BYTE_SHIFT" "I") ∈ wsL_law := wch26 _ (List.mem_of_getElem? (i := 20) rfl)
theorem q621 : (Cond.fieldLink RJ2 63 "java/lang/StringUTF16" "LO_BYTE_SHIFT" "I") ∈ wsL_law := wch26 _ (List.mem_of_getElem? (i := 21) rfl)
theorem q622 : (Cond.methodLink RX3 30 yX3_isBlankAt) ∈ wsL_law := wch26 _ (List.mem_of_getElem? (i := 22) rfl)
theorem q623 : (Cond.instanceMethod yX3_isBlankAt) ∈ wsL_law := wch26 _ (List.mem_of_getElem? (i := 23) rfl)
theorem q624 : (Cond.selects RX3 yX3_isBlankAt yX3_isBlankAt) ∈ wsL_law := wch27 _ (List.mem_of_getElem? (i := 0) rfl)
theorem q625 : (Cond.code yX3_isBlankAt cX3_isBlankAt 2 (some .boolean)) ∈ wsL_law := wch27 _ (List.mem_of_getElem? (i := 1) rfl)
theorem q626 : (Cond.methodLink RX3 34 yX3_isDigitAt) ∈ wsL_law := wch27 _ (List.mem_of_getElem? (i := 2) rfl)
theorem q627 : (Cond.instanceMethod yX3_isDigitAt) ∈ wsL_law := wch27 _ (List.mem_of_getElem? (i := 3) rfl)
theorem q628 : (Cond.selects RX3 yX3_isDigitAt yX3_isDigitAt) ∈ wsL_law := wch27 _ (List.mem_of_getElem? (i := 4) rfl)
theorem q629 : (Cond.code yX3_isDigitAt cX3_isDigitAt 2 (some .boolean)) ∈ wsL_law := wch27 _ (List.mem_of_getElem? (i := 5) rfl)
theorem q630 : (Cond.methodLink RX3 37 yX3_digitsAt) ∈ wsL_law := wch27 _ (List.mem_of_getElem? (i := 6) rfl)
theorem q631 : (Cond.instanceMethod yX3_digitsAt) ∈ wsL_law := wch27 _ (List.mem_of_getElem? (i := 7) rfl)
theorem q632 : (Cond.selects RX3 yX3_digitsAt yX3_digitsAt) ∈ wsL_law := wch27 _ (List.mem_of_getElem? (i := 8) rfl)
theorem q633 : (Cond.code yX3_digitsAt cX3_digitsAt 2 (some .int)) ∈ wsL_law := wch27 _ (List.mem_of_getElem? (i := 9) rfl)
theorem q634 : (Cond.methodLink RX3 40 yX3_keepNumber) ∈ wsL_law := wch27 _ (List.mem_of_getElem? (i := 10) rfl)
theorem q635 : (Cond.instanceMethod yX3_keepNumber) ∈ wsL_law := wch27 _ (List.mem_of_getElem? (i := 11) rfl)
theorem q636 : (Cond.selects RX3 yX3_keepNumber yX3_keepNumber) ∈ wsL_law := wch27 _ (List.mem_of_getElem? (i := 12) rfl)
theorem q637 : (Cond.code yX3_keepNumber cX3_keepNumber 5 none) ∈ wsL_law := wch27 _ (List.mem_of_getElem? (i := 13) rfl)
theorem q638 : (Cond.fieldLink RX3 66 "GlacierGuides$Text" "first" "I") ∈ wsL_law := wch27 _ (List.mem_of_getElem? (i := 14) rfl)
theorem q639 : (Cond.fieldLink RX3 69 "GlacierGuides$Text" "second" "I") ∈ wsL_law := wch27 _ (List.mem_of_getElem? (i := 15) rfl)
theorem q640 : (Cond.methodLink RX5 205 yX5_book) ∈ wsL_law := wch27 _ (List.mem_of_getElem? (i := 16) rfl)
theorem q641 : (Cond.methodLink RX5 208 yX5_leave) ∈ wsL_law := wch27 _ (List.mem_of_getElem? (i := 17) rfl)
theorem q642 : (Cond.methodLink RX5 211 yX5_merge) ∈ wsL_law := wch27 _ (List.mem_of_getElem? (i := 18) rfl)
theorem q643 : (Cond.methodLink RX5 214 yX5_lead) ∈ wsL_law := wch27 _ (List.mem_of_getElem? (i := 19) rfl)
theorem q644 : (Cond.methodLink RX5 217 yX5_cancel) ∈ wsL_law := wch27 _ (List.mem_of_getElem? (i := 20) rfl)
theorem q645 : (Cond.methodLink RL 81 yX6_perform) ∈ wsL_law := wch27 _ (List.mem_of_getElem? (i := 21) rfl)
theorem q646 : (Cond.instanceMethod yX6_perform) ∈ wsL_law := wch27 _ (List.mem_of_getElem? (i := 22) rfl)
theorem q647 : (Cond.selects RX6 yX6_perform yX6_perform) ∈ wsL_law := wch27 _ (List.mem_of_getElem? (i := 23) rfl)
theorem q648 : (Cond.code yX6_perform cX6_perform 2 (some .int)) ∈ wsL_law := wch28 _ (List.mem_of_getElem? (i := 0) rfl)
theorem q649 : (Cond.fieldLink RX6 178 "GlacierGuidesModel" "readOne" "I") ∈ wsL_law := wch28 _ (List.mem_of_getElem? (i := 1) rfl)
theorem q650 : (Cond.fieldLink RX6 165 "GlacierGuidesModel" "at" "I") ∈ wsL_law := wch28 _ (List.mem_of_getElem? (i := 2) rfl)
theorem q651 : (Cond.fieldLink RX6 181 "GlacierGuidesModel" "readTwo" "I") ∈ wsL_law := wch28 _ (List.mem_of_getElem? (i := 3) rfl)
theorem q652 : (Cond.methodLink RX6 172 yX6_word) ∈ wsL_law := wch28 _ (List.mem_of_getElem? (i := 4) rfl)
theorem q653 : (Cond.instanceMethod yX6_word) ∈ wsL_law := wch28 _ (List.mem_of_getElem? (i := 5) rfl)
theorem q654 : (Cond.selects RX6 yX6_word yX6_word) ∈ wsL_law := wch28 _ (List.mem_of_getElem? (i := 6) rfl)
theorem q655 : (Cond.code yX6_word cX6_word 1 (some .int)) ∈ wsL_law := wch28 _ (List.mem_of_getElem? (i := 7) rfl)
theorem q656 : (Cond.methodLink RX6 168 yX6_isWord) ∈ wsL_law := wch28 _ (List.mem_of_getElem? (i := 8) rfl)
theorem q657 : (Cond.instanceMethod yX6_isWord) ∈ wsL_law := wch28 _ (List.mem_of_getElem? (i := 9) rfl)
theorem q658 : (Cond.selects RX6 yX6_isWord yX6_isWord) ∈ wsL_law := wch28 _ (List.mem_of_getElem? (i := 10) rfl)
theorem q659 : (Cond.code yX6_isWord cX6_isWord 6 (some .boolean)) ∈ wsL_law := wch28 _ (List.mem_of_getElem? (i := 11) rfl)
theorem q660 : (Cond.methodLink RX6 175 yX6_number) ∈ wsL_law := wch28 _ (List.mem_of_getElem? (i := 12) rfl)
theorem q661 : (Cond.instanceMethod yX6_number) ∈ wsL_law := wch28 _ (List.mem_of_getElem? (i := 13) rfl)
theorem q662 : (Cond.selects RX6 yX6_number yX6_number) ∈ wsL_law := wch28 _ (List.mem_of_getElem? (i := 14) rfl)
theorem q663 : (Cond.code yX6_number cX6_number 2 (some .int)) ∈ wsL_law := wch28 _ (List.mem_of_getElem? (i := 15) rfl)
theorem q664 : (Cond.methodLink RX6 184 yX6_book) ∈ wsL_law := wch28 _ (List.mem_of_getElem? (i := 16) rfl)
theorem q665 : (Cond.methodLink RX6 187 yX6_leave) ∈ wsL_law := wch28 _ (List.mem_of_getElem? (i := 17) rfl)
theorem q666 : (Cond.methodLink RX6 190 yX6_merge) ∈ wsL_law := wch28 _ (List.mem_of_getElem? (i := 18) rfl)
theorem q667 : (Cond.methodLink RX6 193 yX6_cancel) ∈ wsL_law := wch28 _ (List.mem_of_getElem? (i := 19) rfl)
theorem q668 : (Cond.methodLink RX6 196 yX6_lead) ∈ wsL_law := wch28 _ (List.mem_of_getElem? (i := 20) rfl)
theorem q669 : (Cond.methodLink RL 82 yX5_undo) ∈ wsL_law := wch28 _ (List.mem_of_getElem? (i := 21) rfl)
theorem q670 : (Cond.instanceMethod yX5_undo) ∈ wsL_law := wch28 _ (List.mem_of_getElem? (i := 22) rfl)
theorem q671 : (Cond.selects RX5 yX5_undo yX5_undo) ∈ wsL_law := wch28 _ (List.mem_of_getElem? (i := 23) rfl)
theorem q672 : (Cond.code yX5_undo cX5_undo 1 (some .int)) ∈ wsL_law := wch29 _ (List.mem_of_getElem? (i := 0) rfl)
theorem q673 : (Cond.fieldLink RX5 221 "GlacierGuides$History" "size" "I") ∈ wsL_law := wch29 _ (List.mem_of_getElem? (i := 1) rfl)
theorem q674 : (Cond.methodLink RX5 224 yX1_takeBack) ∈ wsL_law := wch29 _ (List.mem_of_getElem? (i := 2) rfl)
theorem q675 : (Cond.instanceMethod yX1_takeBack) ∈ wsL_law := wch29 _ (List.mem_of_getElem? (i := 3) rfl)
theorem q676 : (Cond.selects RX1 yX1_takeBack yX1_takeBack) ∈ wsL_law := wch29 _ (List.mem_of_getElem? (i := 4) rfl)
theorem q677 : (Cond.code yX1_takeBack cX1_takeBack 2 none) ∈ wsL_law := wch29 _ (List.mem_of_getElem? (i := 5) rfl)
theorem q678 : (Cond.methodLink RL 85 yX6_undo) ∈ wsL_law := wch29 _ (List.mem_of_getElem? (i := 6) rfl)
theorem q679 : (Cond.instanceMethod yX6_undo) ∈ wsL_law := wch29 _ (List.mem_of_getElem? (i := 7) rfl)
theorem q680 : (Cond.selects RX6 yX6_undo yX6_undo) ∈ wsL_law := wch29 _ (List.mem_of_getElem? (i := 8) rfl)
theorem q681 : (Cond.code yX6_undo cX6_undo 2 (some .int)) ∈ wsL_law := wch29 _ (List.mem_of_getElem? (i := 9) rfl)
theorem q682 : (Cond.methodLink RL 86 yX5_keep) ∈ wsL_law := wch29 _ (List.mem_of_getElem? (i := 10) rfl)
theorem q683 : (Cond.instanceMethod yX5_keep) ∈ wsL_law := wch29 _ (List.mem_of_getElem? (i := 11) rfl)
theorem q684 : (Cond.selects RX5 yX5_keep yX5_keep) ∈ wsL_law := wch29 _ (List.mem_of_getElem? (i := 12) rfl)
theorem q685 : (Cond.code yX5_keep cX5_keep 1 (some .int)) ∈ wsL_law := wch29 _ (List.mem_of_getElem? (i := 13) rfl)
theorem q686 : (Cond.fieldLink RX5 230 "GlacierGuides" "hasSnapshot" "Z") ∈ wsL_law := wch29 _ (List.mem_of_getElem? (i := 14) rfl)
theorem q687 : (Cond.methodLink RX5 227 yX2_copyFrom) ∈ wsL_law := wch29 _ (List.mem_of_getElem? (i := 15) rfl)
theorem q688 : (Cond.methodLink RL 89 yX6_keep) ∈ wsL_law := wch29 _ (List.mem_of_getElem? (i := 16) rfl)
theorem q689 : (Cond.instanceMethod yX6_keep) ∈ wsL_law := wch29 _ (List.mem_of_getElem? (i := 17) rfl)
theorem q690 : (Cond.selects RX6 yX6_keep yX6_keep) ∈ wsL_law := wch29 _ (List.mem_of_getElem? (i := 18) rfl)
theorem q691 : (Cond.code yX6_keep cX6_keep 2 (some .int)) ∈ wsL_law := wch29 _ (List.mem_of_getElem? (i := 19) rfl)
theorem q692 : (Cond.fieldLink RX6 199 "GlacierGuidesModel" "isFilled" "Z") ∈ wsL_law := wch29 _ (List.mem_of_getElem? (i := 20) rfl)
theorem q693 : (Cond.methodLink RL 90 yX5_restore) ∈ wsL_law := wch29 _ (List.mem_of_getElem? (i := 21) rfl)
theorem q694 : (Cond.instanceMethod yX5_restore) ∈ wsL_law := wch29 _ (List.mem_of_getElem? (i := 22) rfl)
theorem q695 : (Cond.selects RX5 yX5_restore yX5_restore) ∈ wsL_law := wch29 _ (List.mem_of_getElem? (i := 23) rfl)
theorem q696 : (Cond.code yX5_restore cX5_restore 1 (some .int)) ∈ wsL_law := wch30 _ (List.mem_of_getElem? (i := 0) rfl)
theorem q697 : (Cond.methodLink RL 93 yX6_restore) ∈ wsL_law := wch30 _ (List.mem_of_getElem? (i := 1) rfl)
theorem q698 : (Cond.instanceMethod yX6_restore) ∈ wsL_law := wch30 _ (List.mem_of_getElem? (i := 2) rfl)
theorem q699 : (Cond.selects RX6 yX6_restore yX6_restore) ∈ wsL_law := wch30 _ (List.mem_of_getElem? (i := 3) rfl)
theorem q700 : (Cond.code yX6_restore cX6_restore 2 (some .int)) ∈ wsL_law := wch30 _ (List.mem_of_getElem? (i := 4) rfl)
theorem q701 : (Cond.methodLink RL 94 yX5_guide) ∈ wsL_law := wch30 _ (List.mem_of_getElem? (i := 5) rfl)
theorem q702 : (Cond.instanceMethod yX5_guide) ∈ wsL_law := wch30 _ (List.mem_of_getElem? (i := 6) rfl)
theorem q703 : (Cond.selects RX5 yX5_guide yX5_guide) ∈ wsL_law := wch30 _ (List.mem_of_getElem? (i := 7) rfl)
theorem q704 : (Cond.code yX5_guide cX5_guide 4 (some .int)) ∈ wsL_law := wch30 _ (List.mem_of_getElem? (i := 8) rfl)
theorem q705 : (Cond.fieldLink RX5 240 "GlacierGuides$Guide" "toursLed" "I") ∈ wsL_law := wch30 _ (List.mem_of_getElem? (i := 9) rfl)
theorem q706 : (Cond.fieldLink RX5 243 "GlacierGuides$Guide" "guestsLed" "I") ∈ wsL_law := wch30 _ (List.mem_of_getElem? (i := 10) rfl)
theorem q707 : (Cond.methodLink RX5 234 yX0_isValidOn) ∈ wsL_law := wch30 _ (List.mem_of_getElem? (i := 11) rfl)
theorem q708 : (Cond.methodLink RX5 237 yX2_firstOpenTourOf) ∈ wsL_law := wch30 _ (List.mem_of_getElem? (i := 12) rfl)
theorem q709 : (Cond.instanceMethod yX2_firstOpenTourOf) ∈ wsL_law := wch30 _ (List.mem_of_getElem? (i := 13) rfl)
theorem q710 : (Cond.selects RX2 yX2_firstOpenTourOf yX2_firstOpenTourOf) ∈ wsL_law := wch30 _ (List.mem_of_getElem? (i := 14) rfl)
theorem q711 : (Cond.code yX2_firstOpenTourOf cX2_firstOpenTourOf 3 (some .int)) ∈ wsL_law := wch30 _ (List.mem_of_getElem? (i := 15) rfl)
theorem q712 : (Cond.methodLink RL 97 yX6_guide) ∈ wsL_law := wch30 _ (List.mem_of_getElem? (i := 16) rfl)
theorem q713 : (Cond.instanceMethod yX6_guide) ∈ wsL_law := wch30 _ (List.mem_of_getElem? (i := 17) rfl)
theorem q714 : (Cond.selects RX6 yX6_guide yX6_guide) ∈ wsL_law := wch30 _ (List.mem_of_getElem? (i := 18) rfl)
theorem q715 : (Cond.code yX6_guide cX6_guide 3 (some .int)) ∈ wsL_law := wch30 _ (List.mem_of_getElem? (i := 19) rfl)
theorem q716 : (Cond.methodLink RX6 203 yX6_lowestTour) ∈ wsL_law := wch30 _ (List.mem_of_getElem? (i := 20) rfl)
theorem q717 : (Cond.instanceMethod yX6_lowestTour) ∈ wsL_law := wch30 _ (List.mem_of_getElem? (i := 21) rfl)
theorem q718 : (Cond.selects RX6 yX6_lowestTour yX6_lowestTour) ∈ wsL_law := wch30 _ (List.mem_of_getElem? (i := 22) rfl)
theorem q719 : (Cond.code yX6_lowestTour cX6_lowestTour 3 (some .int)) ∈ wsL_law := wch30 _ (List.mem_of_getElem? (i := 23) rfl)
theorem q720 : (Cond.methodLink RL 98 yX5_tour) ∈ wsL_law := wch31 _ (List.mem_of_getElem? (i := 0) rfl)
theorem q721 : (Cond.instanceMethod yX5_tour) ∈ wsL_law := wch31 _ (List.mem_of_getElem? (i := 1) rfl)
theorem q722 : (Cond.selects RX5 yX5_tour yX5_tour) ∈ wsL_law := wch31 _ (List.mem_of_getElem? (i := 2) rfl)
theorem q723 : (Cond.code yX5_tour cX5_tour 4 (some .int)) ∈ wsL_law := wch31 _ (List.mem_of_getElem? (i := 3) rfl)
theorem q724 : (Cond.fieldLink RX5 246 "GlacierGuides$Tour" "day" "I") ∈ wsL_law := wch31 _ (List.mem_of_getElem? (i := 4) rfl)
theorem q725 : (Cond.fieldLink RX5 247 "GlacierGuides$Tour" "bridges" "I") ∈ wsL_law := wch31 _ (List.mem_of_getElem? (i := 5) rfl)
theorem q726 : (Cond.fieldLink RX5 250 "GlacierGuides$Tour" "cause" "I") ∈ wsL_law := wch31 _ (List.mem_of_getElem? (i := 6) rfl)
theorem q727 : (Cond.fieldLink RX5 253 "GlacierGuides$Tour" "base" "I") ∈ wsL_law := wch31 _ (List.mem_of_getElem? (i := 7) rfl)
theorem q728 : (Cond.methodLink RX5 256 yX2_causeAgainst) ∈ wsL_law := wch31 _ (List.mem_of_getElem? (i := 8) rfl)
theorem q729 : (Cond.methodLink RL 101 yX6_tour) ∈ wsL_law := wch31 _ (List.mem_of_getElem? (i := 9) rfl)
theorem q730 : (Cond.instanceMethod yX6_tour) ∈ wsL_law := wch31 _ (List.mem_of_getElem? (i := 10) rfl)
theorem q731 : (Cond.selects RX6 yX6_tour yX6_tour) ∈ wsL_law := wch31 _ (List.mem_of_getElem? (i := 11) rfl)
theorem q732 : (Cond.code yX6_tour cX6_tour 3 (some .int)) ∈ wsL_law := wch31 _ (List.mem_of_getElem? (i := 12) rfl)
theorem q733 : (Cond.methodLink RL 102 yX5_rope) ∈ wsL_law := wch31 _ (List.mem_of_getElem? (i := 13) rfl)
theorem q734 : (Cond.instanceMethod yX5_rope) ∈ wsL_law := wch31 _ (List.mem_of_getElem? (i := 14) rfl)
theorem q735 : (Cond.selects RX5 yX5_rope yX5_rope) ∈ wsL_law := wch31 _ (List.mem_of_getElem? (i := 15) rfl)
theorem q736 : (Cond.code yX5_rope cX5_rope 5 (some .int)) ∈ wsL_law := wch31 _ (List.mem_of_getElem? (i := 16) rfl)
theorem q737 : (Cond.fieldLink RX5 260 "GlacierGuides$Tour" "row" "[I") ∈ wsL_law := wch31 _ (List.mem_of_getElem? (i := 17) rfl)
theorem q738 : (Cond.methodLink RX5 264 yX2_guestsOnRope) ∈ wsL_law := wch31 _ (List.mem_of_getElem? (i := 18) rfl)
theorem q739 : (Cond.methodLink RL 105 yX6_rope) ∈ wsL_law := wch31 _ (List.mem_of_getElem? (i := 19) rfl)
theorem q740 : (Cond.instanceMethod yX6_rope) ∈ wsL_law := wch31 _ (List.mem_of_getElem? (i := 20) rfl)
theorem q741 : (Cond.selects RX6 yX6_rope yX6_rope) ∈ wsL_law := wch31 _ (List.mem_of_getElem? (i := 21) rfl)
theorem q742 : (Cond.code yX6_rope cX6_rope 5 (some .int)) ∈ wsL_law := wch31 _ (List.mem_of_getElem? (i := 22) rfl)
theorem q743 : (Cond.methodLink RL 106 yX5_thickness) ∈ wsL_law := wch31 _ (List.mem_of_getElem? (i := 23) rfl)
theorem q744 : (Cond.instanceMethod yX5_thickness) ∈ wsL_law := wch32 _ (List.mem_of_getElem? (i := 0) rfl)
theorem q745 : (Cond.selects RX5 yX5_thickness yX5_thickness) ∈ wsL_law := wch32 _ (List.mem_of_getElem? (i := 1) rfl)
theorem q746 : (Cond.code yX5_thickness cX5_thickness 2 (some .double)) ∈ wsL_law := wch32 _ (List.mem_of_getElem? (i := 2) rfl)
theorem q747 : (Cond.methodLink RX5 267 yX2_hasBridge) ∈ wsL_law := wch32 _ (List.mem_of_getElem? (i := 3) rfl)
theorem q748 : (Cond.instanceMethod yX2_hasBridge) ∈ wsL_law := wch32 _ (List.mem_of_getElem? (i := 4) rfl)
theorem q749 : (Cond.selects RX2 yX2_hasBridge yX2_hasBridge) ∈ wsL_law := wch32 _ (List.mem_of_getElem? (i := 5) rfl)
theorem q750 : (Cond.code yX2_hasBridge cX2_hasBridge 2 (some .boolean)) ∈ wsL_law := wch32 _ (List.mem_of_getElem? (i := 6) rfl)
theorem q751 : (Cond.methodLink RX5 270 yX5_noNumber) ∈ wsL_law := wch32 _ (List.mem_of_getElem? (i := 7) rfl)
theorem q752 : (Cond.static yX5_noNumber) ∈ wsL_law := wch32 _ (List.mem_of_getElem? (i := 8) rfl)
theorem q753 : (Cond.code yX5_noNumber cX5_noNumber 0 (some .double)) ∈ wsL_law := wch32 _ (List.mem_of_getElem? (i := 9) rfl)
theorem q754 : (Cond.constantDouble RX5 310 (9221120237041090560)) ∈ wsL_law := wch32 _ (List.mem_of_getElem? (i := 10) rfl)
theorem q755 : (Cond.methodLink RL 110 yX6_thickness) ∈ wsL_law := wch32 _ (List.mem_of_getElem? (i := 11) rfl)
theorem q756 : (Cond.instanceMethod yX6_thickness) ∈ wsL_law := wch32 _ (List.mem_of_getElem? (i := 12) rfl)
theorem q757 : (Cond.selects RX6 yX6_thickness yX6_thickness) ∈ wsL_law := wch32 _ (List.mem_of_getElem? (i := 13) rfl)
theorem q758 : (Cond.code yX6_thickness cX6_thickness 2 (some .double)) ∈ wsL_law := wch32 _ (List.mem_of_getElem? (i := 14) rfl)
theorem q759 : (Cond.methodLink RX6 208 yX6_noBridge) ∈ wsL_law := wch32 _ (List.mem_of_getElem? (i := 15) rfl)
theorem q760 : (Cond.instanceMethod yX6_noBridge) ∈ wsL_law := wch32 _ (List.mem_of_getElem? (i := 16) rfl)
theorem q761 : (Cond.selects RX6 yX6_noBridge yX6_noBridge) ∈ wsL_law := wch32 _ (List.mem_of_getElem? (i := 17) rfl)
theorem q762 : (Cond.code yX6_noBridge cX6_noBridge 2 (some .boolean)) ∈ wsL_law := wch32 _ (List.mem_of_getElem? (i := 18) rfl)
theorem q763 : (Cond.methodLink RX6 211 yX6_nothing) ∈ wsL_law := wch32 _ (List.mem_of_getElem? (i := 19) rfl)
theorem q764 : (Cond.static yX6_nothing) ∈ wsL_law := wch32 _ (List.mem_of_getElem? (i := 20) rfl)
theorem q765 : (Cond.code yX6_nothing cX6_nothing 0 (some .double)) ∈ wsL_law := wch32 _ (List.mem_of_getElem? (i := 21) rfl)
theorem q766 : (Cond.constantDouble RX6 206 (9221120237041090560)) ∈ wsL_law := wch32 _ (List.mem_of_getElem? (i := 22) rfl)
theorem q767 : (Cond.methodLink RL 111 yX5_foretold) ∈ wsL_law := wch32 _ (List.mem_of_getElem? (i := 23) rfl)
theorem q768 : (Cond.instanceMethod yX5_foretold) ∈ wsL_law := wch33 _ (List.mem_of_getElem? (i := 0) rfl)
theorem q769 : (Cond.selects RX5 yX5_foretold yX5_foretold) ∈ wsL_law := wch33 _ (List.mem_of_getElem? (i := 1) rfl)
theorem q770 : (Cond.code yX5_foretold cX5_foretold 6 (some .double)) ∈ wsL_law := wch33 _ (List.mem_of_getElem? (i := 2) rfl)
theorem q771 : (Cond.methodLink RX5 274 yX2_dayLater) ∈ wsL_law := wch33 _ (List.mem_of_getElem? (i := 3) rfl)
theorem q772 : (Cond.methodLink RL 115 yX6_foretold) ∈ wsL_law := wch33 _ (List.mem_of_getElem? (i := 4) rfl)
theorem q773 : (Cond.instanceMethod yX6_foretold) ∈ wsL_law := wch33 _ (List.mem_of_getElem? (i := 5) rfl)
theorem q774 : (Cond.selects RX6 yX6_foretold yX6_foretold) ∈ wsL_law := wch33 _ (List.mem_of_getElem? (i := 6) rfl)
theorem q775 : (Cond.code yX6_foretold cX6_foretold 6 (some .double)) ∈ wsL_law := wch33 _ (List.mem_of_getElem? (i := 7) rfl)
theorem q776 : (Cond.methodLink RL 116 yX5_needed) ∈ wsL_law := wch33 _ (List.mem_of_getElem? (i := 8) rfl)
theorem q777 : (Cond.instanceMethod yX5_needed) ∈ wsL_law := wch33 _ (List.mem_of_getElem? (i := 9) rfl)
theorem q778 : (Cond.selects RX5 yX5_needed yX5_needed) ∈ wsL_law := wch33 _ (List.mem_of_getElem? (i := 10) rfl)
theorem q779 : (Cond.code yX5_needed cX5_needed 3 (some .double)) ∈ wsL_law := wch33 _ (List.mem_of_getElem? (i := 11) rfl)
theorem q780 : (Cond.methodLink RX5 278 yX2_neededBy) ∈ wsL_law := wch33 _ (List.mem_of_getElem? (i := 12) rfl)
theorem q781 : (Cond.methodLink RL 119 yX6_needed) ∈ wsL_law := wch33 _ (List.mem_of_getElem? (i := 13) rfl)
theorem q782 : (Cond.instanceMethod yX6_needed) ∈ wsL_law := wch33 _ (List.mem_of_getElem? (i := 14) rfl)
theorem q783 : (Cond.selects RX6 yX6_needed yX6_needed) ∈ wsL_law := wch33 _ (List.mem_of_getElem? (i := 15) rfl)
theorem q784 : (Cond.code yX6_needed cX6_needed 2 (some .double)) ∈ wsL_law := wch33 _ (List.mem_of_getElem? (i := 16) rfl)
theorem q785 : (Cond.methodLink RL 120 yX5_holds) ∈ wsL_law := wch33 _ (List.mem_of_getElem? (i := 17) rfl)
theorem q786 : (Cond.instanceMethod yX5_holds) ∈ wsL_law := wch33 _ (List.mem_of_getElem? (i := 18) rfl)
theorem q787 : (Cond.selects RX5 yX5_holds yX5_holds) ∈ wsL_law := wch33 _ (List.mem_of_getElem? (i := 19) rfl)
theorem q788 : (Cond.code yX5_holds cX5_holds 4 (some .int)) ∈ wsL_law := wch33 _ (List.mem_of_getElem? (i := 20) rfl)
theorem q789 : (Cond.methodLink RL 123 yX6_holds) ∈ wsL_law := wch33 _ (List.mem_of_getElem? (i := 21) rfl)
theorem q790 : (Cond.instanceMethod yX6_holds) ∈ wsL_law := wch33 _ (List.mem_of_getElem? (i := 22) rfl)
theorem q791 : (Cond.selects RX6 yX6_holds yX6_holds) ∈ wsL_law := wch33 _ (List.mem_of_getElem? (i := 23) rfl)
theorem q792 : (Cond.code yX6_holds cX6_holds 3 (some .int)) ∈ wsL_law := wch34 _ (List.mem_of_getElem? (i := 0) rfl)
theorem q793 : (Cond.methodLink RL 124 yX5_bestGuide) ∈ wsL_law := wch34 _ (List.mem_of_getElem? (i := 1) rfl)
theorem q794 : (Cond.instanceMethod yX5_bestGuide) ∈ wsL_law := wch34 _ (List.mem_of_getElem? (i := 2) rfl)
theorem q795 : (Cond.selects RX5 yX5_bestGuide yX5_bestGuide) ∈ wsL_law := wch34 _ (List.mem_of_getElem? (i := 3) rfl)
theorem q796 : (Cond.code yX5_bestGuide cX5_bestGuide 6 (some .int)) ∈ wsL_law := wch34 _ (List.mem_of_getElem? (i := 4) rfl)
theorem q797 : (Cond.methodLink RL 127 yX6_bestGuide) ∈ wsL_law := wch34 _ (List.mem_of_getElem? (i := 5) rfl)
theorem q798 : (Cond.instanceMethod yX6_bestGuide) ∈ wsL_law := wch34 _ (List.mem_of_getElem? (i := 6) rfl)
theorem q799 : (Cond.selects RX6 yX6_bestGuide yX6_bestGuide) ∈ wsL_law := wch34 _ (List.mem_of_getElem? (i := 7) rfl)
theorem q800 : (Cond.code yX6_bestGuide cX6_bestGuide 5 (some .int)) ∈ wsL_law := wch34 _ (List.mem_of_getElem? (i := 8) rfl)
theorem q801 : (Cond.methodLink RL 128 yX5_takes) ∈ wsL_law := wch34 _ (List.mem_of_getElem? (i := 9) rfl)
theorem q802 : (Cond.instanceMethod yX5_takes) ∈ wsL_law := wch34 _ (List.mem_of_getElem? (i := 10) rfl)
theorem q803 : (Cond.selects RX5 yX5_takes yX5_takes) ∈ wsL_law := wch34 _ (List.mem_of_getElem? (i := 11) rfl)
theorem q804 : (Cond.code yX5_takes cX5_takes 4 (some .int)) ∈ wsL_law := wch34 _ (List.mem_of_getElem? (i := 12) rfl)
theorem q805 : (Cond.methodLink RL 131 yX6_takes) ∈ wsL_law := wch34 _ (List.mem_of_getElem? (i := 13) rfl)
theorem q806 : (Cond.instanceMethod yX6_takes) ∈ wsL_law := wch34 _ (List.mem_of_getElem? (i := 14) rfl)
theorem q807 : (Cond.selects RX6 yX6_takes yX6_takes) ∈ wsL_law := wch34 _ (List.mem_of_getElem? (i := 15) rfl)
theorem q808 : (Cond.code yX6_takes cX6_takes 3 (some .int)) ∈ wsL_law := wch34 _ (List.mem_of_getElem? (i := 16) rfl)
theorem q809 : (Cond.methodLink RL 132 yX5_count) ∈ wsL_law := wch34 _ (List.mem_of_getElem? (i := 17) rfl)
theorem q810 : (Cond.instanceMethod yX5_count) ∈ wsL_law := wch34 _ (List.mem_of_getElem? (i := 18) rfl)
theorem q811 : (Cond.selects RX5 yX5_count yX5_count) ∈ wsL_law := wch34 _ (List.mem_of_getElem? (i := 19) rfl)
theorem q812 : (Cond.code yX5_count cX5_count 2 (some .int)) ∈ wsL_law := wch34 _ (List.mem_of_getElem? (i := 20) rfl)
theorem q813 : (Cond.fieldLink RX5 288 "GlacierGuides$State" "refunded" "I") ∈ wsL_law := wch34 _ (List.mem_of_getElem? (i := 21) rfl)
theorem q814 : (Cond.methodLink RX5 282 yX2_toursThatAre) ∈ wsL_law := wch34 _ (List.mem_of_getElem? (i := 22) rfl)
theorem q815 : (Cond.instanceMethod yX2_toursThatAre) ∈ wsL_law := wch34 _ (List.mem_of_getElem? (i := 23) rfl)
theorem q816 : (Cond.selects RX2 yX2_toursThatAre yX2_toursThatAre) ∈ wsL_law := wch35 _ (List.mem_of_getElem? (i := 0) rfl)
theorem q817 : (Cond.code yX2_toursThatAre cX2_toursThatAre 4 (some .int)) ∈ wsL_law := wch35 _ (List.mem_of_getElem? (i := 1) rfl)
theorem q818 : (Cond.methodLink RX5 285 yX2_allPaid) ∈ wsL_law := wch35 _ (List.mem_of_getElem? (i := 2) rfl)
theorem q819 : (Cond.instanceMethod yX2_allPaid) ∈ wsL_law := wch35 _ (List.mem_of_getElem? (i := 3) rfl)
theorem q820 : (Cond.selects RX2 yX2_allPaid yX2_allPaid) ∈ wsL_law := wch35 _ (List.mem_of_getElem? (i := 4) rfl)
theorem q821 : (Cond.code yX2_allPaid cX2_allPaid 3 (some .int)) ∈ wsL_law := wch35 _ (List.mem_of_getElem? (i := 5) rfl)
theorem q822 : (Cond.methodLink RX5 291 yX2_guestsGone) ∈ wsL_law := wch35 _ (List.mem_of_getElem? (i := 6) rfl)
theorem q823 : (Cond.instanceMethod yX2_guestsGone) ∈ wsL_law := wch35 _ (List.mem_of_getElem? (i := 7) rfl)
theorem q824 : (Cond.selects RX2 yX2_guestsGone yX2_guestsGone) ∈ wsL_law := wch35 _ (List.mem_of_getElem? (i := 8) rfl)
theorem q825 : (Cond.code yX2_guestsGone cX2_guestsGone 3 (some .int)) ∈ wsL_law := wch35 _ (List.mem_of_getElem? (i := 9) rfl)
theorem q826 : (Cond.methodLink RL 135 yX6_count) ∈ wsL_law := wch35 _ (List.mem_of_getElem? (i := 10) rfl)
theorem q827 : (Cond.instanceMethod yX6_count) ∈ wsL_law := wch35 _ (List.mem_of_getElem? (i := 11) rfl)
theorem q828 : (Cond.selects RX6 yX6_count yX6_count) ∈ wsL_law := wch35 _ (List.mem_of_getElem? (i := 12) rfl)
theorem q829 : (Cond.code yX6_count cX6_count 2 (some .int)) ∈ wsL_law := wch35 _ (List.mem_of_getElem? (i := 13) rfl)
theorem q830 : (Cond.methodLink RX6 215 yX6_inState) ∈ wsL_law := wch35 _ (List.mem_of_getElem? (i := 14) rfl)
theorem q831 : (Cond.instanceMethod yX6_inState) ∈ wsL_law := wch35 _ (List.mem_of_getElem? (i := 15) rfl)
theorem q832 : (Cond.selects RX6 yX6_inState yX6_inState) ∈ wsL_law := wch35 _ (List.mem_of_getElem? (i := 16) rfl)
theorem q833 : (Cond.code yX6_inState cX6_inState 4 (some .int)) ∈ wsL_law := wch35 _ (List.mem_of_getElem? (i := 17) rfl)
theorem q834 : (Cond.methodLink RX6 218 yX6_paidAll) ∈ wsL_law := wch35 _ (List.mem_of_getElem? (i := 18) rfl)
theorem q835 : (Cond.instanceMethod yX6_paidAll) ∈ wsL_law := wch35 _ (List.mem_of_getElem? (i := 19) rfl)
theorem q836 : (Cond.selects RX6 yX6_paidAll yX6_paidAll) ∈ wsL_law := wch35 _ (List.mem_of_getElem? (i := 20) rfl)
theorem q837 : (Cond.code yX6_paidAll cX6_paidAll 3 (some .int)) ∈ wsL_law := wch35 _ (List.mem_of_getElem? (i := 21) rfl)
theorem q838 : (Cond.methodLink RX6 221 yX6_goneGuests) ∈ wsL_law := wch35 _ (List.mem_of_getElem? (i := 22) rfl)
theorem q839 : (Cond.instanceMethod yX6_goneGuests) ∈ wsL_law := wch35 _ (List.mem_of_getElem? (i := 23) rfl)
theorem q840 : (Cond.selects RX6 yX6_goneGuests yX6_goneGuests) ∈ wsL_law := wch36 _ (List.mem_of_getElem? (i := 0) rfl)
theorem q841 : (Cond.code yX6_goneGuests cX6_goneGuests 3 (some .int)) ∈ wsL_law := wch36 _ (List.mem_of_getElem? (i := 1) rfl)
theorem q842 : (Cond.methodLink RL 136 yX5_temperature) ∈ wsL_law := wch36 _ (List.mem_of_getElem? (i := 2) rfl)
theorem q843 : (Cond.instanceMethod yX5_temperature) ∈ wsL_law := wch36 _ (List.mem_of_getElem? (i := 3) rfl)
theorem q844 : (Cond.selects RX5 yX5_temperature yX5_temperature) ∈ wsL_law := wch36 _ (List.mem_of_getElem? (i := 4) rfl)
theorem q845 : (Cond.code yX5_temperature cX5_temperature 1 (some .long)) ∈ wsL_law := wch36 _ (List.mem_of_getElem? (i := 5) rfl)
theorem q846 : (Cond.methodLink RL 140 yX6_temperature) ∈ wsL_law := wch36 _ (List.mem_of_getElem? (i := 6) rfl)
theorem q847 : (Cond.instanceMethod yX6_temperature) ∈ wsL_law := wch36 _ (List.mem_of_getElem? (i := 7) rfl)
theorem q848 : (Cond.selects RX6 yX6_temperature yX6_temperature) ∈ wsL_law := wch36 _ (List.mem_of_getElem? (i := 8) rfl)
theorem q849 : (Cond.code yX6_temperature cX6_temperature 1 (some .long)) ∈ wsL_law := wch36 _ (List.mem_of_getElem? (i := 9) rfl)
theorem q850 : (Cond.methodLink RX6 224 yJxe99ae_doubleToLongBits_ccdee) ∈ wsL_law := wch36 _ (List.mem_of_getElem? (i := 10) rfl)
theorem q851 : (Cond.static yJxe99ae_doubleToLongBits_ccdee) ∈ wsL_law := wch36 _ (List.mem_of_getElem? (i := 11) rfl)
theorem q852 : (Cond.initialized RJxe99ae) ∈ wsL_law := wch36 _ (List.mem_of_getElem? (i := 12) rfl)
theorem q853 : (Cond.code yJxe99ae_doubleToLongBits_ccdee cJxe99ae_doubleToLongBits_ccdee 2 (some .long)) ∈ wsL_law := wch36 _ (List.mem_of_getElem? (i := 13) rfl)
theorem q854 : (Cond.methodLink RJxe99ae 134 ⟨"java/lang/Double", "doubleToRawLongBits", "(D)J"⟩) ∈ wsL_law := wch36 _ (List.mem_of_getElem? (i := 14) rfl)
theorem q855 : (Cond.native ⟨"java/lang/Double", "doubleToRawLongBits", "(D)J"⟩) ∈ wsL_law := wch36 _ (List.mem_of_getElem? (i := 15) rfl)
theorem q856 : (Cond.static ⟨"java/lang/Double", "doubleToRawLongBits", "(D)J"⟩) ∈ wsL_law := wch36 _ (List.mem_of_getElem? (i := 16) rfl)
theorem q857 : (Cond.constantLong RJxe99ae 137 (9221120237041090560)) ∈ wsL_law := wch36 _ (List.mem_of_getElem? (i := 17) rfl)
theorem q858 : (Cond.methodLink RJxe99ae 122 yJxe99ae_isNaN_b9ae7) ∈ wsL_law := wch36 _ (List.mem_of_getElem? (i := 18) rfl)
theorem q859 : (Cond.static yJxe99ae_isNaN_b9ae7) ∈ wsL_law := wch36 _ (List.mem_of_getElem? (i := 19) rfl)
theorem q860 : (Cond.code yJxe99ae_isNaN_b9ae7 cJxe99ae_isNaN_b9ae7 2 (some .boolean)) ∈ wsL_law := wch36 _ (List.mem_of_getElem? (i := 20) rfl)
end
